/-! abstract values, the abstract store, kinds of cells -/
abbrev AV : Type := Int32 ⊕ (Option Nat ⊕ Int64)
abbrev vi (x : Int32) : AV := Sum.inl x
abbrev vo (o : Option Nat) : AV := Sum.inr (Sum.inl o)
abbrev vr (a : Nat) : AV := Sum.inr (Sum.inl (some a))
abbrev vl (x : Int64) : AV := Sum.inr (Sum.inr x)
def vz (z : Nat) : AV → Value
  | Sum.inl x => .int x
  | Sum.inr (Sum.inl none) => .null
  | Sum.inr (Sum.inl (some a)) => .ref (z + a)
  | Sum.inr (Sum.inr x) => .long x
def rz (z : Nat) (o : Option Nat) : Value := va_rf (o.map (fun a => z + a))
theorem vz_o (z : Nat) (o : Option Nat) : vz z (vo o) = rz z o := by cases o <;> rfl
abbrev Sto : Type := Nat × (Nat → Nat → Int32) × (Nat → Nat → Option Nat)
def sN (S : Sto) : Nat := S.1
def gI (S : Sto) : Nat → Nat → Int32 := S.2.1
def gR (S : Sto) : Nat → Nat → Option Nat := S.2.2
def pI (S : Sto) (a k : Nat) (x : Int32) : Sto := (S.1, fun b => if b = a then upd (S.2.1 a) k x else S.2.1 b, S.2.2)
def pR (S : Sto) (a k : Nat) (x : Option Nat) : Sto := (S.1, S.2.1, fun b => if b = a then va_up (S.2.2 a) k x else S.2.2 b)
def nw (S : Sto) : Sto := (S.1 + 1, fun b => if b = S.1 then fun _ => 0 else S.2.1 b, fun b => if b = S.1 then fun _ => none else S.2.2 b)
theorem sN_pI (S : Sto) (a k : Nat) (x : Int32) : sN (pI S a k x) = sN S := rfl
theorem sN_pR (S : Sto) (a k : Nat) (x : Option Nat) : sN (pR S a k x) = sN S := rfl
theorem sN_nw (S : Sto) : sN (nw S) = sN S + 1 := rfl
theorem gI_pI (S : Sto) (a k : Nat) (x : Int32) (b : Nat) : gI (pI S a k x) b = if b = a then upd (gI S a) k x else gI S b := rfl
theorem gI_pR (S : Sto) (a k : Nat) (x : Option Nat) : gI (pR S a k x) = gI S := rfl
theorem gR_pR (S : Sto) (a k : Nat) (x : Option Nat) (b : Nat) : gR (pR S a k x) b = if b = a then va_up (gR S a) k x else gR S b := rfl
theorem gR_pI (S : Sto) (a k : Nat) (x : Int32) : gR (pI S a k x) = gR S := rfl
theorem gI_nw (S : Sto) (b : Nat) : gI (nw S) b = if b = sN S then fun _ => 0 else gI S b := rfl
theorem gR_nw (S : Sto) (b : Nat) : gR (nw S) b = if b = sN S then fun _ => none else gR S b := rfl
/-- the kinds: 0 Pace, 1 Packet, 2 Side, 3 Stream, 4 the carrier, 5 the model; arrays: 6 byte, 7 int, 8 boolean, 9 of Packets, 10 of Sides, 11 of Streams -/
def kdL : List Nat := [4, 9, 11, 3, 6, 3, 6, 3, 6, 3, 6, 3, 6, 3, 6, 3, 6, 3, 6, 10, 2, 9, 0, 2, 9, 0, 5, 7, 8, 8, 8, 7, 8, 8, 8, 7, 6, 8, 7, 7, 7, 8, 7, 8, 7, 7, 7, 7, 7, 7, 7, 7, 7, 8, 7, 7, 8, 7, 8, 7, 7, 7, 8, 7, 8, 7, 7, 7, 7, 7, 8, 8, 8, 8, 7, 7, 7, 7, 8]
def lnL : List Nat := [0, 400, 8, 0, 1000, 0, 1000, 0, 1000, 0, 1000, 0, 1000, 0, 1000, 0, 1000, 0, 1000, 2, 0, 300, 0, 0, 300, 0, 0, 8, 8, 8, 8, 8, 8, 8, 8, 8, 8000, 8000, 8, 8, 8, 8, 8, 8, 2, 2, 2, 2, 2, 2, 2, 2, 2, 2, 2, 2, 2, 2, 2, 2, 2, 2, 2, 2, 2, 2, 600, 600, 600, 600, 600, 600, 600, 600, 57600, 4800, 400, 400, 300]
def kd (a : Nat) : Nat := if a < 79 then kdL.getD a 99 else if (a - 79) % 3 = 0 then 1 else 7
def ln (a : Nat) : Nat := if a < 79 then lnL.getD a 0 else if (a - 79) % 3 = 1 then 64 else 8
def al (S : Sto) (a c : Nat) : Prop := a < sN S ∧ kd a = c
def RC : Nat → String | 0 => RX0 | 1 => RX1 | 2 => RX2 | 3 => RX3 | 4 => RX4 | _ => RX5
def TC : Nat → u_T | 0 => TX0 | 1 => TX1 | 2 => TX2 | 3 => TX3 | 4 => TX4 | _ => TX5
def NC : Nat → Nat | 0 => 10 | 1 => 13 | 2 => 14 | 3 => 17 | 4 => 14 | _ => 65
def tyC : Nat → Nat → FieldType | 0 => tyX0 | 1 => tyX1 | 2 => tyX2 | 3 => tyX3 | 4 => tyX4 | _ => tyX5
def eT : Nat → FieldType | 6 => .byte | 7 => .int | 8 => .boolean | 9 => .object RX1 | 10 => .object RX2 | _ => .object RX3
def isR (c k : Nat) : Bool := match tyC c k with
  | .object _ => true
  | .array _ => true
  | _ => false
def fv (z : Nat) (S : Sto) (a k : Nat) : Value := if isR (kd a) k = true then rz z (gR S a k) else .int (gI S a k)
def ev (z : Nat) (S : Sto) (a k : Nat) : Value := if kd a < 9 then .int (gI S a k) else rz z (gR S a k)
abbrev Dd : Type := (Nat → ClassId) × (Nat → Nat → Nat) × (Nat → ClassId)
def at1 (D : Dd) (z : Nat) (S : Sto) (a : Nat) (H : Heap) : Prop :=
  if kd a < 6 then t_OB (z + a) (D.1 (kd a)) (NC (kd a)) (D.2.1 (kd a)) H (fv z S a) else H[z + a]? = some (arrV (D.2.2 (kd a)) (ln a) (ev z S a))
def Rep (D : Dd) (z : Nat) (S : Sto) (H : Heap) : Prop := H.size = z + sN S ∧ ∀ a, a < sN S → at1 D z S a H
def DK (D : Dd) (U : State) : Prop := (∀ c, c < 6 → u_Kn U (RC c) (TC c) (NC c) (D.1 c) (D.2.1 c)) ∧ (∀ k, 6 ≤ k → k < 12 → ArrOfT U (D.2.2 k) (eT k) ∧ va_RA U (D.2.2 k) (eT k)) ∧ va_AO RX1 U ∧ va_AO RX2 U ∧ va_AO RX3 U
theorem DK.moved {D : Dd} {u U : State} (hvm : u.vm.Alike U.vm) (h : DK D u) : DK D U := ⟨fun c hc => u_Kn_moved hvm (h.1 c hc), fun k h1 h2 => ⟨arrOfT_moved hvm (h.2.1 k h1 h2).1, (h.2.1 k h1 h2).2.moved hvm⟩, h.2.2.1.moved hvm, h.2.2.2.1.moved hvm, h.2.2.2.2.moved hvm⟩
theorem at1.obj {D : Dd} {z : Nat} {S : Sto} {a c : Nat} {H : Heap} (h : at1 D z S a H) (hk : kd a = c) (hc : c < 6) : t_OB (z + a) (D.1 c) (NC c) (D.2.1 c) H (fv z S a) := by
  unfold at1 at h
  rw [if_pos (by omega), hk] at h
  exact h
theorem at1.arr {D : Dd} {z : Nat} {S : Sto} {a c : Nat} {H : Heap} (h : at1 D z S a H) (hk : kd a = c) (hc : 6 ≤ c) : H[z + a]? = some (arrV (D.2.2 c) (ln a) (ev z S a)) := by
  unfold at1 at h
  rw [if_neg (by omega), hk] at h
  exact h
theorem at1.ofObj {D : Dd} {z : Nat} {S : Sto} {a c : Nat} {H : Heap} (hk : kd a = c) (hc : c < 6) (h : t_OB (z + a) (D.1 c) (NC c) (D.2.1 c) H (fv z S a)) : at1 D z S a H := by
  unfold at1
  rw [if_pos (by omega), hk]
  exact h
theorem at1.ofArr {D : Dd} {z : Nat} {S : Sto} {a c : Nat} {H : Heap} (hk : kd a = c) (hc : 6 ≤ c) (h : H[z + a]? = some (arrV (D.2.2 c) (ln a) (ev z S a))) : at1 D z S a H := by
  unfold at1
  rw [if_neg (by omega), hk]
  exact h
theorem at1.kept {D : Dd} {z : Nat} {S S' : Sto} {a : Nat} {H H1 : Heap} (h : at1 D z S a H) (hI : gI S' a = gI S a) (hR : gR S' a = gR S a) (hq : H1[z + a]? = H[z + a]?) : at1 D z S' a H1 := by
  have e1 : fv z S' a = fv z S a := by funext k; simp only [fv, hI, hR]
  have e2 : ev z S' a = ev z S a := by funext k; simp only [ev, hI, hR]
  unfold at1 at h ⊢
  rw [e1, e2]
  by_cases hc : kd a < 6
  · rw [if_pos hc] at h ⊢
    exact h.kept hq
  · rw [if_neg hc] at h ⊢
    rw [hq]; exact h
theorem Rep.set {D : Dd} {z : Nat} {S S' : Sto} {a : Nat} {H H1 : Heap} (h : Rep D z S H) (hn : sN S' = sN S) (hz : H1.size = H.size) (ho : ∀ q : Nat, q ≠ z + a → H1[q]? = H[q]?) (hc : at1 D z S' a H1) (hb : ∀ b, b ≠ a → gI S' b = gI S b ∧ gR S' b = gR S b) : Rep D z S' H1 := by
  refine ⟨by rw [hz, h.1, hn], fun b hbn => ?_⟩
  by_cases e : b = a
  · subst e; exact hc
  · exact (h.2 b (by rw [← hn]; exact hbn)).kept (hb b e).1 (hb b e).2 (ho _ (by omega))
theorem Rep.push {D : Dd} {z : Nat} {S S' : Sto} {H H1 : Heap} (h : Rep D z S H) (hn : sN S' = sN S + 1) (hz : H1.size = H.size + 1) (ho : ∀ q : Nat, q < H.size → H1[q]? = H[q]?) (hc : at1 D z S' (sN S) H1) (hb : ∀ b, b < sN S → gI S' b = gI S b ∧ gR S' b = gR S b) : Rep D z S' H1 := by
  refine ⟨by rw [hz, h.1, hn]; omega, fun b hbn => ?_⟩
  by_cases e : b = sN S
  · rw [e]; exact hc
  · have hlt : b < sN S := by omega
    exact (h.2 b hlt).kept (hb b hlt).1 (hb b hlt).2 (ho _ (by rw [h.1]; omega))
theorem pI_other {S : Sto} {a k : Nat} {x : Int32} : ∀ b, b ≠ a → gI (pI S a k x) b = gI S b ∧ gR (pI S a k x) b = gR S b := fun b hb => ⟨by rw [gI_pI, if_neg hb], rfl⟩
theorem pR_other {S : Sto} {a k : Nat} {x : Option Nat} : ∀ b, b ≠ a → gI (pR S a k x) b = gI S b ∧ gR (pR S a k x) b = gR S b := fun b hb => ⟨rfl, by rw [gR_pR, if_neg hb]⟩
theorem nw_other {S : Sto} : ∀ b, b < sN S → gI (nw S) b = gI S b ∧ gR (nw S) b = gR S b := fun b hb => ⟨by rw [gI_nw, if_neg (by omega)], by rw [gR_nw, if_neg (by omega)]⟩
theorem fv_pI {z : Nat} {S : Sto} {a k : Nat} {x : Int32} (hr : isR (kd a) k = false) (j : Nat) : updV (fv z S a) k (.int x) j = fv z (pI S a k x) a j := by
  by_cases e : j = k
  · subst e
    simp [updV, fv, hr, gI_pI, upd]
  · simp [updV, fv, gI_pI, upd, e, gR_pI]
theorem fv_pR {z : Nat} {S : Sto} {a k : Nat} {x : Option Nat} (hr : isR (kd a) k = true) (j : Nat) : updV (fv z S a) k (rz z x) j = fv z (pR S a k x) a j := by
  by_cases e : j = k
  · subst e
    simp [updV, fv, hr, gR_pR, va_up]
  · simp [updV, fv, gR_pR, va_up, e, gI_pR]
/-! the words of the tables that hold in every frame -/
def BIG : List Cond := lw_tbl.filter goodWord
theorem BIG_in : ∀ w ∈ BIG, w ∈ lw_tbl := fun _ h => (List.mem_filter.mp h).1
theorem BIG_good : GoodIn BIG BIG := fun w h => ⟨h, good_of_word (List.mem_filter.mp h).2⟩
theorem mB (i : Nat) {w : Cond} (h : tables_1[i]? = some w) (hg : goodWord w = true) : w ∈ BIG := List.mem_filter.mpr ⟨List.mem_append_right _ (List.mem_of_getElem? h), hg⟩
theorem mS (i : Nat) {q : MethodName × Nat} (h : lw_privs[i]? = some q) (hg : goodWord (.selects q.1.cls q.1 q.1) = true) : Cond.selects q.1.cls q.1 q.1 ∈ BIG := List.mem_filter.mpr ⟨List.mem_append_left _ (List.mem_map.mpr ⟨q, List.mem_of_getElem? h, rfl⟩), hg⟩
theorem lay_in {c : Nat} (ps : List Nat) (hp : u_ws (RC c) (TC c) (NC c) = ps.filterMap (fun i => tables_1[i]?)) (hg : (u_ws (RC c) (TC c) (NC c)).all goodWord = true) : ∀ w ∈ u_ws (RC c) (TC c) (NC c), w ∈ BIG := by
  intro w hw
  have h1 := List.all_eq_true.mp hg w hw
  rw [hp] at hw
  obtain ⟨i, -, hi⟩ := List.mem_filterMap.mp hw
  exact mB i hi h1
set_option maxRecDepth 20000 in
theorem lay_0 : ∀ w ∈ u_ws (RC 0) (TC 0) (NC 0), w ∈ BIG := lay_in [130, 132, 134, 136, 138, 140, 142, 144, 146, 148] (by decide +kernel) (by decide +kernel)
set_option maxRecDepth 20000 in
theorem lay_1 : ∀ w ∈ u_ws (RC 1) (TC 1) (NC 1), w ∈ BIG := lay_in [325, 327, 329, 331, 333, 335, 337, 339, 341, 343, 345, 347, 349] (by decide +kernel) (by decide +kernel)
set_option maxRecDepth 20000 in
theorem lay_2 : ∀ w ∈ u_ws (RC 2) (TC 2) (NC 2), w ∈ BIG := lay_in [174, 176, 178, 180, 182, 184, 186, 188, 190, 192, 194, 196, 198, 200] (by decide +kernel) (by decide +kernel)
set_option maxRecDepth 20000 in
theorem lay_3 : ∀ w ∈ u_ws (RC 3) (TC 3) (NC 3), w ∈ BIG := lay_in [55, 57, 59, 61, 63, 65, 67, 69, 71, 73, 75, 77, 79, 81, 83, 85, 87] (by decide +kernel) (by decide +kernel)
set_option maxRecDepth 20000 in
theorem lay_4 : ∀ w ∈ u_ws (RC 4) (TC 4) (NC 4), w ∈ BIG := lay_in [217, 219, 221, 223, 225, 227, 229, 231, 233, 235, 237, 239, 241, 243] (by decide +kernel) (by decide +kernel)
set_option maxRecDepth 20000 in
theorem lay_5 : ∀ w ∈ u_ws (RC 5) (TC 5) (NC 5), w ∈ BIG := lay_in [657, 659, 661, 663, 665, 667, 669, 671, 673, 675, 677, 679, 681, 683, 685, 687, 689, 691, 693, 695, 697, 699, 701, 703, 705, 707, 709, 711, 713, 715, 717, 719, 721, 723, 725, 727, 729, 731, 733, 735, 737, 739, 741, 743, 745, 747, 749, 751, 753, 755, 757, 759, 761, 763, 765, 767, 769, 771, 773, 775, 777, 779, 781, 783, 785] (by decide +kernel) (by decide +kernel)
theorem lays_in : ∀ c, c < 6 → ∀ w ∈ u_ws (RC c) (TC c) (NC c), w ∈ BIG
  | 0, _ => lay_0
  | 1, _ => lay_1
  | 2, _ => lay_2
  | 3, _ => lay_3
  | 4, _ => lay_4
  | 5, _ => lay_5
  | n + 6, h => absurd h (by omega)
theorem ty_ok : ∀ c, c < 6 → ∀ k, k < NC c → parseFieldDescriptor (TC c k).2.2.1 = some (tyC c k)
  | 0, _ => tyX0_ok
  | 1, _ => tyX1_ok
  | 2, _ => tyX2_ok
  | 3, _ => tyX3_ok
  | 4, _ => tyX4_ok
  | 5, _ => tyX5_ok
  | n + 6, h => absurd h (by omega)
theorem nm_ok : ∀ c, c < 6 → ∀ a, a < NC c → ∀ b, b < NC c → a ≠ b → (TC c a).2.1 ≠ (TC c b).2.1
  | 0, _ => nmX0
  | 1, _ => nmX1
  | 2, _ => nmX2
  | 3, _ => nmX3
  | 4, _ => nmX4
  | 5, _ => nmX5
  | n + 6, h => absurd h (by omega)
/-! the context of a walk: program, launch, environment, room, start, method, arguments, frames below, the method's record, its code, the classes, the base address, the end -/
abbrev Mt : Type := MethodName × ByteArray × Nat × Option FieldType × Room
abbrev ky (K : Mt) : MethodName := K.1
abbrev kc (K : Mt) : ByteArray := K.2.1
abbrev kL (K : Mt) : Nat := K.2.2.1
abbrev kT (K : Mt) : Option FieldType := K.2.2.2.1
abbrev kR (K : Mt) : Room := K.2.2.2.2
abbrev ko (K : Mt) : String := K.1.cls
def kw (K : Mt) : List Cond := Cond.code (ky K) (kc K) (kL K) (kT K) :: BIG
abbrev Ctx : Type := Program × Launch × Env × Room × State × MethodId × Array Value × List Frame × Method × Code × Dd × Nat × (State → Prop)
abbrev xp (X : Ctx) : Program := X.1
abbrev xl (X : Ctx) : Launch := X.2.1
abbrev xe (X : Ctx) : Env := X.2.2.1
abbrev xR (X : Ctx) : Room := X.2.2.2.1
abbrev xs (X : Ctx) : State := X.2.2.2.2.1
abbrev xm (X : Ctx) : MethodId := X.2.2.2.2.2.1
abbrev xa (X : Ctx) : Array Value := X.2.2.2.2.2.2.1
abbrev xb (X : Ctx) : List Frame := X.2.2.2.2.2.2.2.1
abbrev xt (X : Ctx) : Method := X.2.2.2.2.2.2.2.2.1
abbrev xc (X : Ctx) : Code := X.2.2.2.2.2.2.2.2.2.1
abbrev xD (X : Ctx) : Dd := X.2.2.2.2.2.2.2.2.2.2.1
abbrev xz (X : Ctx) : Nat := X.2.2.2.2.2.2.2.2.2.2.2.1
abbrev xQ (X : Ctx) : State → Prop := X.2.2.2.2.2.2.2.2.2.2.2.2
abbrev WX (X : Ctx) (H : Heap) (locs : List Loc) (u v : Nat) (g : JFrame) : Prop := W (xp X) (xl X) (xe X) (xR X) (xs X) (xm X) (xa X) (xb X) (xt X) (xc X) H locs u v (xQ X) g
def mz (z : Nat) (loc : List (Nat × AV)) : List (Nat × Value) := loc.map (fun q => (q.1, vz z q.2))
theorem mz_at {z : Nat} {loc : List (Nat × AV)} {k i : Nat} {x : AV} (h : loc[k]? = some (i, x)) : (mz z loc)[k]? = some (i, vz z x) := by
  simp [mz, List.getElem?_map, h]
/-- from here the walk comes to its end -/
def WP (X : Ctx) (pc : Nat) (loc : List (Nat × AV)) (st : List AV) (S : Sto) (u v : Nat) : Prop :=
  ∀ (H : Heap) (locs : List Loc) (ls : Array Slot), Rep (xD X) (xz X) S H → va_S (fun q => xz X ≤ q) (xs X).heap H locs → lv_has ls (xc X).maxLocals (mz (xz X) loc) → WX X H locs u v (F0 (xm X) pc ls (st.map (vz (xz X))))
/-- the context is one of method K -/
def Cx (X : Ctx) (K : Mt) : Prop := (xp X).tables.exec = Jvm.exec ∧ (xc X).code = kc K ∧ (xc X).maxLocals = kL K ∧ (xs X).vm.findClass (ko K) = some (xm X).cls ∧ (∀ w ∈ BIG, w.before (xa X) (xs X) = true) ∧ DK (xD X) (xs X) ∧ xz X ≤ (xs X).heap.size ∧ xR X = kR K ∧ ((xt X).name = (ky K).name)
def Qc (D : Dd) (z : Nat) (Q : Option AV → Sto → Prop) : Array Value → State → Outcome → State → Prop := fun _ st o t => (∃ (r : Option AV) (S : Sto), o = .returned (r.map (vz z)) ∧ Q r S ∧ Rep D z S t.heap) ∧ va_F (fun q => z ≤ q) st t
def Ok (X : Ctx) (K : Mt) (Q : Option AV → Sto → Prop) : Prop := Cx X K ∧ (xt X).sig.returnType = kT K ∧ (xt X).locks = false ∧ xQ X = MQ (xb X) (Qc (xD X) (xz X) Q) (xa X) (xs X) (kR K).cells (kR K).slots (fun q => xz X ≤ q)
def Pcz (D : Dd) (z : Nat) (av : List AV) (S : Sto) : Array Value → State → Prop := fun a U => a = (av.map (vz z)).toArray ∧ Rep D z S U.heap ∧ DK D U
/-- a call of method K with these arguments, from this store, comes back with an answer and a store of which Q holds -/
def CALL (K : Mt) (av : List AV) (S : Sto) (Q : Option AV → Sto → Prop) : Prop :=
  ∀ (l : Launch) (D : Dd) (z : Nat), Met l (ky K) (kw K) (kR K) (Pcz D z av S) (Qc D z Q) (kR K).cells (kR K).slots (fun q => z ≤ q)
def avl : Nat → List AV → List (Nat × AV)
  | _, [] => []
  | i, Sum.inr (Sum.inr x) :: t => (i, Sum.inr (Sum.inr x)) :: avl (i + 2) t
  | i, Sum.inl x :: t => (i, Sum.inl x) :: avl (i + 1) t
  | i, Sum.inr (Sum.inl x) :: t => (i, Sum.inr (Sum.inl x)) :: avl (i + 1) t
theorem avl_mz (z : Nat) : ∀ (av : List AV) (i : Nat), lv_args i (av.map (vz z)) = mz z (avl i av)
  | [], i => rfl
  | Sum.inr (Sum.inr x) :: t, i => by
    show (i, Value.long x) :: lv_args (i + 2) (t.map (vz z)) = (i, Value.long x) :: mz z (avl (i + 2) t)
    rw [avl_mz z t (i + 2)]
  | Sum.inl x :: t, i => by
    show (i, Value.int x) :: lv_args (i + 1) (t.map (vz z)) = (i, Value.int x) :: mz z (avl (i + 1) t)
    rw [avl_mz z t (i + 1)]
  | Sum.inr (Sum.inl none) :: t, i => by
    show (i, Value.null) :: lv_args (i + 1) (t.map (vz z)) = (i, Value.null) :: mz z (avl (i + 1) t)
    rw [avl_mz z t (i + 1)]
  | Sum.inr (Sum.inl (some a)) :: t, i => by
    show (i, Value.ref (z + a)) :: lv_args (i + 1) (t.map (vz z)) = (i, Value.ref (z + a)) :: mz z (avl (i + 1) t)
    rw [avl_mz z t (i + 1)]
def avn : List AV → Nat
  | [] => 0
  | Sum.inr (Sum.inr _) :: t => avn t + 2
  | Sum.inl _ :: t => avn t + 1
  | Sum.inr (Sum.inl _) :: t => avn t + 1
theorem avn_sl (z : Nat) : ∀ av : List AV, (lg_sl (av.map (vz z))).length = avn av
  | [] => rfl
  | Sum.inr (Sum.inr x) :: t => by
    show ([Slot.val (.long x), .second] ++ lg_sl (t.map (vz z))).length = avn t + 2
    rw [List.length_append, avn_sl z t]; simp; omega
  | Sum.inl x :: t => by
    show ([Slot.val (.int x)] ++ lg_sl (t.map (vz z))).length = avn t + 1
    rw [List.length_append, avn_sl z t]; simp; omega
  | Sum.inr (Sum.inl none) :: t => by
    show ([Slot.val .null] ++ lg_sl (t.map (vz z))).length = avn t + 1
    rw [List.length_append, avn_sl z t]; simp; omega
  | Sum.inr (Sum.inl (some a)) :: t => by
    show ([Slot.val (.ref (z + a))] ++ lg_sl (t.map (vz z))).length = avn t + 1
    rw [List.length_append, avn_sl z t]; simp; omega
theorem CALL.intro {K : Mt} {av : List AV} {S : Sto} {Q : Option AV → Sto → Prop} (hp : plainName (ko K) = true) (hn : avn av ≤ kL K) (h : ∀ X : Ctx, Ok X K Q → WP X 0 (avl 0 av) [] S 0 0) : CALL K av S Q := by
  intro l D z
  refine Met.ofW (cc := kc K) (maxL := kL K) (ret := kT K) (ws' := BIG) hp rfl ?_
  intro p e s m args below meth c s₁ B hml hv
  obtain ⟨rfl, hR, hK⟩ := hv
  have hts := atoms_spec (ws := kw K) B.pre
  have hw := h (p, l, e, kR K, s, m, (av.map (vz z)).toArray, below, meth, c, D, z, MQ below (Qc D z Q) (av.map (vz z)).toArray s (kR K).cells (kR K).slots (fun q => z ≤ q)) ⟨⟨B.exec, B.bytes, hml, findClass_of_methodNamed B.named, fun w hw => hts w (List.mem_cons_of_mem _ hw), hK, by show z ≤ s.heap.size; rw [hR.1]; omega, rfl, (name_of_methodNamed B.named B.method).1⟩, B.returns, B.notSynchronized, rfl⟩
  have hl := lv_entry (av.map (vz z)) (n := kL K) (by rw [avn_sl]; exact hn)
  rw [lg_entry_eq]
  generalize (lg_sl (av.map (vz z)) ++ List.replicate (kL K - (lg_sl (av.map (vz z))).length) Slot.unset).toArray = ls at hl ⊢
  rw [avl_mz] at hl
  exact hw s.heap [] ls hR va_S.rf (by show lv_has ls c.maxLocals _; rw [hml]; exact hl)
/-- the store goes on: cells and slots used are counted up to the method's own room -/
theorem W.ret1 {X : Ctx} {K : Mt} {Q : Option AV → Sto → Prop} (O : Ok X K Q) {S : Sto} {H : Heap} {locs : List Loc} {r : Option AV} (hR : Rep (xD X) (xz X) S H) (hS : va_S (fun q => xz X ≤ q) (xs X).heap H locs) (hq : Q r S) : ∀ t : State, t.heap = H → (xs X).WarmedH t.vm → Qc (xD X) (xz X) Q (xa X) (xs X) (.returned (r.map (vz (xz X)))) t := fun t ht _ => ⟨⟨r, S, rfl, hq, by rw [ht]; exact hR⟩, hS.F ht⟩
section ROWS
variable {X : Ctx} {K : Mt} {Q : Option AV → Sto → Prop} {pc : Nat} {loc : List (Nat × AV)} {st : List AV} {S : Sto} {u v : Nat}
theorem Cx.ex (C : Cx X K) : (xp X).tables.exec = Jvm.exec := C.1
theorem Cx.co (C : Cx X K) : (xc X).code = kc K := C.2.1
theorem Cx.ml (C : Cx X K) : (xc X).maxLocals = kL K := C.2.2.1
theorem Cx.ow (C : Cx X K) : (xs X).vm.findClass (ko K) = some (xm X).cls := C.2.2.2.1
theorem Cx.ts (C : Cx X K) : ∀ w ∈ BIG, w.before (xa X) (xs X) = true := C.2.2.2.2.1
theorem Cx.dk (C : Cx X K) : DK (xD X) (xs X) := C.2.2.2.2.2.1
theorem Cx.zs (C : Cx X K) : xz X ≤ (xs X).heap.size := C.2.2.2.2.2.2.1
theorem Cx.rm (C : Cx X K) : xR X = kR K := C.2.2.2.2.2.2.2.1
theorem Cx.nm (C : Cx X K) : (xt X).name = (ky K).name := C.2.2.2.2.2.2.2.2
theorem r_iconst (C : Cx X K) {n : Int} {x : Int32} (hd : decode (kc K) pc = .ok (.iconst n, 1)) (hv : Int32.ofInt n = x) (k : WP X (pc + 1) loc (vi x :: st) S u v) : WP X pc loc st S u v := by
  intro H locs ls hR hS hl; exact lv_iconst C.ex C.co hd hv (k H locs ls hR hS hl)
theorem r_bipush (C : Cx X K) {n : Int} {x : Int32} (hd : decode (kc K) pc = .ok (.bipush n, 2)) (hv : (Int8.ofInt n).toInt32 = x) (k : WP X (pc + 2) loc (vi x :: st) S u v) : WP X pc loc st S u v := by
  intro H locs ls hR hS hl; exact lv_bipush C.ex C.co hd hv (k H locs ls hR hS hl)
theorem r_sipush (C : Cx X K) {n : Int} {x : Int32} (hd : decode (kc K) pc = .ok (.sipush n, 3)) (hv : (Int16.ofInt n).toInt32 = x) (k : WP X (pc + 3) loc (vi x :: st) S u v) : WP X pc loc st S u v := by
  intro H locs ls hR hS hl; exact lv_sipush C.ex C.co hd hv (k H locs ls hR hS hl)
theorem r_ldc (C : Cx X K) {i : Nat} {x : Int32} (hw : Cond.constant (ko K) i x ∈ BIG) (hd : decode (kc K) pc = .ok (.ldc i, 2)) (k : WP X (pc + 2) loc (vi x :: st) S u v) : WP X pc loc st S u v := by
  intro H locs ls hR hS hl; exact lv_ldc C.ex C.co C.ow (C.ts _ hw) hd (k H locs ls hR hS hl)
theorem r_ldc2 (C : Cx X K) {i : Nat} {x : Int64} (hw : Cond.constantLong (ko K) i x ∈ BIG) (hd : decode (kc K) pc = .ok (.ldc2_w i, 3)) (k : WP X (pc + 3) loc (vl x :: st) S u v) : WP X pc loc st S u v := by
  intro H locs ls hR hS hl; exact lv_ldc2 C.ex C.co C.ow (C.ts _ hw) hd (k H locs ls hR hS hl)
theorem r_lconst (C : Cx X K) {n : Fin 2} {x : Int64} (hd : decode (kc K) pc = .ok (.lconst n, 1)) (hv : Int64.ofNat (n : Nat) = x) (k : WP X (pc + 1) loc (vl x :: st) S u v) : WP X pc loc st S u v := by
  intro H locs ls hR hS hl; exact lv_lconst C.ex C.co hd hv (k H locs ls hR hS hl)
theorem r_null (C : Cx X K) (hd : decode (kc K) pc = .ok (.aconst_null, 1)) (k : WP X (pc + 1) loc (vo none :: st) S u v) : WP X pc loc st S u v := by
  intro H locs ls hR hS hl; exact lv_null C.ex C.co hd (k H locs ls hR hS hl)
theorem r_iloadn (C : Cx X K) {n : Fin 4} (i : Nat) {x : Int32} (hd : decode (kc K) pc = .ok (.iload_n n, 1)) (hk : loc[i]? = some ((n : Nat), vi x)) (k : WP X (pc + 1) loc (vi x :: st) S u v) : WP X pc loc st S u v := by
  intro H locs ls hR hS hl; exact lv_iload_n C.ex C.co hd rfl (lv_at hl i (mz_at hk)) (k H locs ls hR hS hl)
theorem r_iload (C : Cx X K) {n : Nat} (i : Nat) {x : Int32} (hd : decode (kc K) pc = .ok (.iload n, 2)) (hk : loc[i]? = some (n, vi x)) (k : WP X (pc + 2) loc (vi x :: st) S u v) : WP X pc loc st S u v := by
  intro H locs ls hR hS hl; exact lv_iload C.ex C.co hd (lv_at hl i (mz_at hk)) (k H locs ls hR hS hl)
theorem r_lloadn (C : Cx X K) {n : Fin 4} (i : Nat) {x : Int64} (hd : decode (kc K) pc = .ok (.lload_n n, 1)) (hk : loc[i]? = some ((n : Nat), vl x)) (k : WP X (pc + 1) loc (vl x :: st) S u v) : WP X pc loc st S u v := by
  intro H locs ls hR hS hl; exact lv_lload_n C.ex C.co hd rfl (lv_at hl i (mz_at hk)) (k H locs ls hR hS hl)
theorem r_lload (C : Cx X K) {n : Nat} (i : Nat) {x : Int64} (hd : decode (kc K) pc = .ok (.lload n, 2)) (hk : loc[i]? = some (n, vl x)) (k : WP X (pc + 2) loc (vl x :: st) S u v) : WP X pc loc st S u v := by
  intro H locs ls hR hS hl; exact lv_lload C.ex C.co hd (lv_at hl i (mz_at hk)) (k H locs ls hR hS hl)
theorem r_aloadn (C : Cx X K) {n : Fin 4} (i : Nat) {x : Option Nat} (hd : decode (kc K) pc = .ok (.aload_n n, 1)) (hk : loc[i]? = some ((n : Nat), vo x)) (k : WP X (pc + 1) loc (vo x :: st) S u v) : WP X pc loc st S u v := by
  intro H locs ls hR hS hl
  cases x with
  | none => exact lv_aload_nN C.ex C.co hd rfl (lv_at hl i (mz_at hk)) (k H locs ls hR hS hl)
  | some a => exact lv_aload_n C.ex C.co hd rfl (lv_at hl i (mz_at hk)) (k H locs ls hR hS hl)
theorem r_aload (C : Cx X K) {n : Nat} (i : Nat) {x : Option Nat} (hd : decode (kc K) pc = .ok (.aload n, 2)) (hk : loc[i]? = some (n, vo x)) (k : WP X (pc + 2) loc (vo x :: st) S u v) : WP X pc loc st S u v := by
  intro H locs ls hR hS hl
  cases x with
  | none => exact lv_aloadN C.ex C.co hd (lv_at hl i (mz_at hk)) (k H locs ls hR hS hl)
  | some a => exact lv_aload C.ex C.co hd (lv_at hl i (mz_at hk)) (k H locs ls hR hS hl)
/-- a store into place i of the locals, where no long lies before it or there -/
def lset (i : Nat) (x : AV) (loc : List (Nat × AV)) : List (Nat × AV) := (i, x) :: loc.filter (fun q => !(q.1 == i))
def isL : AV → Bool
  | Sum.inr (Sum.inr _) => true
  | _ => false
def noL (i : Nat) (loc : List (Nat × AV)) : Bool := loc.all (fun q => !(q.1 + 1 == i && isL q.2))
theorem vz_cat (z : Nat) (x : AV) : (vz z x).category = if isL x = true then 2 else 1 := by
  rcases x with x | (_ | x) | x <;> rfl
theorem lset_mz {z i : Nat} {x : AV} {loc : List (Nat × AV)} (hn : noL i loc = true) : (i, vz z x) :: (mz z loc).filter (fun q => !(q.1 == i) && !(q.1 + 1 == i && q.2.category == 2)) = mz z (lset i x loc) := by
  simp only [lset, mz, List.map_cons, List.filter_map]
  congr 2
  apply List.filter_congr
  intro q hq
  have h1 := List.all_eq_true.mp hn q hq
  have h2 := vz_cat z q.2
  simp only [Function.comp]
  rw [h2]
  by_cases e : q.1 + 1 = i
  · simp [e] at h1
    simp [e, h1]
  · simp [e]
theorem r_istoren (C : Cx X K) {n : Fin 4} {x : Int32} {loc' : List (Nat × AV)} (hd : decode (kc K) pc = .ok (.istore_n n, 1)) (hn : (n : Nat) < kL K) (ho : noL n loc = true) (hl' : lset n (vi x) loc = loc') (k : WP X (pc + 1) loc' st S u v) : WP X pc loc (vi x :: st) S u v := by
  intro H locs ls hR hS hl; exact lv_istore_n C.ex C.co hd rfl hl (by rw [C.ml]; exact hn) (lset_mz (x := vi x) ho) (fun ls' h' => k H locs ls' hR hS (hl' ▸ h'))
theorem r_istore (C : Cx X K) {n : Nat} {x : Int32} {loc' : List (Nat × AV)} (hd : decode (kc K) pc = .ok (.istore n, 2)) (hn : n < kL K) (ho : noL n loc = true) (hl' : lset n (vi x) loc = loc') (k : WP X (pc + 2) loc' st S u v) : WP X pc loc (vi x :: st) S u v := by
  intro H locs ls hR hS hl; exact lv_istore C.ex C.co hd hl (by rw [C.ml]; exact hn) (lset_mz (x := vi x) ho) (fun ls' h' => k H locs ls' hR hS (hl' ▸ h'))
theorem r_iinc (C : Cx X K) {n : Nat} {d : Int} (i : Nat) {x y : Int32} {loc' : List (Nat × AV)} (hd : decode (kc K) pc = .ok (.iinc n d, 3)) (hk : loc[i]? = some (n, vi x)) (hy : x + Int32.ofInt d = y) (hn : n < kL K) (ho : noL n loc = true) (hl' : lset n (vi y) loc = loc') (k : WP X (pc + 3) loc' st S u v) : WP X pc loc st S u v := by
  intro H locs ls hR hS hl; exact lv_iinc C.ex C.co hd hl (mz_at hk) hy (by rw [C.ml]; exact hn) (lset_mz (x := vi y) ho) (fun ls' h' => k H locs ls' hR hS (hl' ▸ h'))
theorem r_astoren (C : Cx X K) {n : Fin 4} {x : Option Nat} {loc' : List (Nat × AV)} (hd : decode (kc K) pc = .ok (.astore_n n, 1)) (hn : (n : Nat) < kL K) (ho : noL n loc = true) (hl' : lset n (vo x) loc = loc') (k : WP X (pc + 1) loc' st S u v) : WP X pc loc (vo x :: st) S u v := by
  intro H locs ls hR hS hl
  cases x with
  | none => exact lv_astore_nN C.ex C.co hd rfl hl (by rw [C.ml]; exact hn) (lset_mz (x := vo none) ho) (fun ls' h' => k H locs ls' hR hS (hl' ▸ h'))
  | some a => exact lv_astore_n C.ex C.co hd rfl hl (by rw [C.ml]; exact hn) (lset_mz (x := vr a) ho) (fun ls' h' => k H locs ls' hR hS (hl' ▸ h'))
theorem r_astore (C : Cx X K) {n : Nat} {x : Option Nat} {loc' : List (Nat × AV)} (hd : decode (kc K) pc = .ok (.astore n, 2)) (hn : n < kL K) (ho : noL n loc = true) (hl' : lset n (vo x) loc = loc') (k : WP X (pc + 2) loc' st S u v) : WP X pc loc (vo x :: st) S u v := by
  intro H locs ls hR hS hl
  cases x with
  | none => exact lv_astoreN C.ex C.co hd hl (by rw [C.ml]; exact hn) (lset_mz (x := vo none) ho) (fun ls' h' => k H locs ls' hR hS (hl' ▸ h'))
  | some a => exact lv_astore C.ex C.co hd hl (by rw [C.ml]; exact hn) (lset_mz (x := vr a) ho) (fun ls' h' => k H locs ls' hR hS (hl' ▸ h'))
/-- the first store of a long, over places that hold nothing -/
theorem r_lstore (C : Cx X K) {n : Nat} {x : Int64} {loc' : List (Nat × AV)} (hd : decode (kc K) pc = .ok (.lstore n, 2)) (hn : n + 1 < kL K) (ho : loc.all (fun q => !(q.1 == n) && (!(q.1 == n + 1) && !(q.1 + 1 == n))) = true) (hl' : (n, vl x) :: loc = loc') (k : WP X (pc + 2) loc' st S u v) : WP X pc loc (vl x :: st) S u v := by
  intro H locs ls hR hS hl
  refine lv_lstore C.ex C.co hd hl (by rw [C.ml]; exact hn) (lv' := mz (xz X) ((n, vl x) :: loc)) ?_ (fun ls' h' => k H locs ls' hR hS (hl' ▸ h'))
  simp only [mz, List.map_cons, List.filter_map]
  congr 2
  apply List.filter_eq_self.mpr
  intro q hq
  have h1 := List.all_eq_true.mp ho q hq
  simp only [Bool.and_eq_true, Bool.not_eq_true', beq_eq_false_iff_ne] at h1
  simp [Function.comp, h1]
theorem r_perm (is : List Nat) {loc' : List (Nat × AV)} (hl' : is.filterMap (fun i => loc[i]?) = loc') (k : WP X pc loc' st S u v) : WP X pc loc st S u v := by
  intro H locs ls hR hS hl
  refine k H locs ls hR hS (lv_sub hl is ?_)
  rw [← hl']
  simp only [lv_pick, mz, List.map_filterMap]
  congr 1
  funext i
  simp
theorem r_iadd (C : Cx X K) {x y : Int32} (hd : decode (kc K) pc = .ok (.iadd, 1)) (k : WP X (pc + 1) loc (vi (x + y) :: st) S u v) : WP X pc loc (vi y :: vi x :: st) S u v := by
  intro H locs ls hR hS hl; exact lv_iadd C.ex C.co hd (k H locs ls hR hS hl)
theorem r_isub (C : Cx X K) {x y : Int32} (hd : decode (kc K) pc = .ok (.isub, 1)) (k : WP X (pc + 1) loc (vi (x - y) :: st) S u v) : WP X pc loc (vi y :: vi x :: st) S u v := by
  intro H locs ls hR hS hl; exact lv_isub C.ex C.co hd (k H locs ls hR hS hl)
theorem r_imul (C : Cx X K) {x y : Int32} (hd : decode (kc K) pc = .ok (.imul, 1)) (k : WP X (pc + 1) loc (vi (x * y) :: st) S u v) : WP X pc loc (vi y :: vi x :: st) S u v := by
  intro H locs ls hR hS hl; exact lv_imul C.ex C.co hd (k H locs ls hR hS hl)
theorem r_iand (C : Cx X K) {x y : Int32} (hd : decode (kc K) pc = .ok (.iand, 1)) (k : WP X (pc + 1) loc (vi (x &&& y) :: st) S u v) : WP X pc loc (vi y :: vi x :: st) S u v := by
  intro H locs ls hR hS hl; exact lv_iand C.ex C.co hd (k H locs ls hR hS hl)
theorem r_ior (C : Cx X K) {x y : Int32} (hd : decode (kc K) pc = .ok (.ior, 1)) (k : WP X (pc + 1) loc (vi (x ||| y) :: st) S u v) : WP X pc loc (vi y :: vi x :: st) S u v := by
  intro H locs ls hR hS hl; exact lv_ior C.ex C.co hd (k H locs ls hR hS hl)
theorem r_ishl (C : Cx X K) {x y : Int32} (hd : decode (kc K) pc = .ok (.ishl, 1)) (k : WP X (pc + 1) loc (vi (x <<< (y &&& 31)) :: st) S u v) : WP X pc loc (vi y :: vi x :: st) S u v := by
  intro H locs ls hR hS hl; exact lv_ishl C.ex C.co hd (k H locs ls hR hS hl)
theorem r_idiv (C : Cx X K) {x y : Int32} (hd : decode (kc K) pc = .ok (.idiv, 1)) (hne : ¬ y = 0) (k : WP X (pc + 1) loc (vi (x / y) :: st) S u v) : WP X pc loc (vi y :: vi x :: st) S u v := by
  intro H locs ls hR hS hl; exact lv_idiv C.ex C.co hd hne (k H locs ls hR hS hl)
theorem r_irem (C : Cx X K) {x y : Int32} (hd : decode (kc K) pc = .ok (.irem, 1)) (hne : ¬ y = 0) (k : WP X (pc + 1) loc (vi (x - x / y * y) :: st) S u v) : WP X pc loc (vi y :: vi x :: st) S u v := by
  intro H locs ls hR hS hl; exact lv_irem C.ex C.co hd hne (k H locs ls hR hS hl)
theorem r_ineg (C : Cx X K) {x : Int32} (hd : decode (kc K) pc = .ok (.ineg, 1)) (k : WP X (pc + 1) loc (vi (-x) :: st) S u v) : WP X pc loc (vi x :: st) S u v := by
  intro H locs ls hR hS hl; exact lv_ineg C.ex C.co hd (k H locs ls hR hS hl)
theorem r_i2b (C : Cx X K) {x : Int32} (hd : decode (kc K) pc = .ok (.i2b, 1)) (k : WP X (pc + 1) loc (vi x.toInt8.toInt32 :: st) S u v) : WP X pc loc (vi x :: st) S u v := by
  intro H locs ls hR hS hl; exact lv_i2b C.ex C.co hd rfl (k H locs ls hR hS hl)
theorem r_i2l (C : Cx X K) {x : Int32} (hd : decode (kc K) pc = .ok (.i2l, 1)) (k : WP X (pc + 1) loc (vl x.toInt64 :: st) S u v) : WP X pc loc (vi x :: st) S u v := by
  intro H locs ls hR hS hl; exact lv_i2l C.ex C.co hd rfl (k H locs ls hR hS hl)
theorem r_ladd (C : Cx X K) {x y : Int64} (hd : decode (kc K) pc = .ok (.ladd, 1)) (k : WP X (pc + 1) loc (vl (x + y) :: st) S u v) : WP X pc loc (vl y :: vl x :: st) S u v := by
  intro H locs ls hR hS hl; exact lv_ladd C.ex C.co hd (k H locs ls hR hS hl)
theorem r_lshl (C : Cx X K) {x : Int64} {y : Int32} (hd : decode (kc K) pc = .ok (.lshl, 1)) (k : WP X (pc + 1) loc (vl (x <<< (y.toInt64 &&& 63)) :: st) S u v) : WP X pc loc (vi y :: vl x :: st) S u v := by
  intro H locs ls hR hS hl; exact lv_lshl C.ex C.co hd rfl (k H locs ls hR hS hl)
theorem r_lcmp (C : Cx X K) {x y : Int64} (hd : decode (kc K) pc = .ok (.lcmp, 1)) (k : WP X (pc + 1) loc (vi (lg_cmp x y) :: st) S u v) : WP X pc loc (vl y :: vl x :: st) S u v := by
  intro H locs ls hR hS hl; exact W.lcmp C.ex C.co hd (k H locs ls hR hS hl)
theorem r_dup (C : Cx X K) {x : AV} (hx : isL x = false) (hd : decode (kc K) pc = .ok (.dup, 1)) (k : WP X (pc + 1) loc (x :: x :: st) S u v) : WP X pc loc (x :: st) S u v := by
  intro H locs ls hR hS hl; exact lv_dup C.ex C.co hd (by rw [vz_cat, hx]; rfl) (k H locs ls hR hS hl)
theorem r_dup2 (C : Cx X K) {x y : AV} (hx : isL x = false) (hy : isL y = false) (hd : decode (kc K) pc = .ok (.dup2, 1)) (k : WP X (pc + 1) loc (x :: y :: x :: y :: st) S u v) : WP X pc loc (x :: y :: st) S u v := by
  intro H locs ls hR hS hl; exact lv_dup2_11 C.ex C.co hd (by rw [vz_cat, hx]; rfl) (by rw [vz_cat, hy]; rfl) (k H locs ls hR hS hl)
theorem r_pop (C : Cx X K) {x : AV} (hx : isL x = false) (hd : decode (kc K) pc = .ok (.pop, 1)) (k : WP X (pc + 1) loc st S u v) : WP X pc loc (x :: st) S u v := by
  intro H locs ls hR hS hl; exact lv_pop C.ex C.co hd (by rw [vz_cat, hx]; rfl) (k H locs ls hR hS hl)
theorem r_goto (C : Cx X K) {off : Int} {tgt : Nat} (hd : decode (kc K) pc = .ok (.goto off, 3)) (ht : (pc : Int) + off = (tgt : Int)) (k : WP X tgt loc st S u v) : WP X pc loc st S u v := by
  intro H locs ls hR hS hl; exact lv_goto C.ex C.co hd ht (k H locs ls hR hS hl)
theorem r_ifnull (C : Cx X K) {x : Option Nat} {off : Int} {tgt : Nat} (hd : decode (kc K) pc = .ok (.ifnull off, 3)) (ht : (pc : Int) + off = (tgt : Int)) (kt : x = none → WP X tgt loc st S u v) (kf : ∀ a, x = some a → WP X (pc + 3) loc st S u v) : WP X pc loc (vo x :: st) S u v := by
  intro H locs ls hR hS hl
  cases x with
  | none => exact lv_ifnullN C.ex C.co hd ht (kt rfl H locs ls hR hS hl)
  | some a => exact lv_ifnull C.ex C.co hd (kf a rfl H locs ls hR hS hl)
theorem r_ifnonnull (C : Cx X K) {x : Option Nat} {off : Int} {tgt : Nat} (hd : decode (kc K) pc = .ok (.ifnonnull off, 3)) (ht : (pc : Int) + off = (tgt : Int)) (kt : ∀ a, x = some a → WP X tgt loc st S u v) (kf : x = none → WP X (pc + 3) loc st S u v) : WP X pc loc (vo x :: st) S u v := by
  intro H locs ls hR hS hl
  cases x with
  | none => exact lv_ifnonnullN C.ex C.co hd (kf rfl H locs ls hR hS hl)
  | some a => exact lv_ifnonnull C.ex C.co hd ht (kt a rfl H locs ls hR hS hl)
theorem r_if_eq (C : Cx X K) {x : Int32} {off : Int} {tgt : Nat} (hd : decode (kc K) pc = .ok (.ifCond .eq off, 3)) (ht : (pc : Int) + off = (tgt : Int)) (kt : x = 0 → WP X tgt loc st S u v) (kf : ¬ x = 0 → WP X (pc + 3) loc st S u v) : WP X pc loc (vi x :: st) S u v := by
  intro H locs ls hR hS hl; exact lv_if_eq C.ex C.co hd ht (fun h => kt h H locs ls hR hS hl) (fun h => kf h H locs ls hR hS hl)
theorem r_icmp_eq (C : Cx X K) {x y : Int32} {off : Int} {tgt : Nat} (hd : decode (kc K) pc = .ok (.if_icmp .eq off, 3)) (ht : (pc : Int) + off = (tgt : Int)) (kt : x = y → WP X tgt loc st S u v) (kf : ¬ x = y → WP X (pc + 3) loc st S u v) : WP X pc loc (vi y :: vi x :: st) S u v := by
  intro H locs ls hR hS hl; exact lv_icmp_eq C.ex C.co hd ht (fun h => kt h H locs ls hR hS hl) (fun h => kf h H locs ls hR hS hl)
theorem r_if_ne (C : Cx X K) {x : Int32} {off : Int} {tgt : Nat} (hd : decode (kc K) pc = .ok (.ifCond .ne off, 3)) (ht : (pc : Int) + off = (tgt : Int)) (kt : ¬ x = 0 → WP X tgt loc st S u v) (kf : x = 0 → WP X (pc + 3) loc st S u v) : WP X pc loc (vi x :: st) S u v := by
  intro H locs ls hR hS hl; exact lv_if_ne C.ex C.co hd ht (fun h => kt h H locs ls hR hS hl) (fun h => kf h H locs ls hR hS hl)
theorem r_icmp_ne (C : Cx X K) {x y : Int32} {off : Int} {tgt : Nat} (hd : decode (kc K) pc = .ok (.if_icmp .ne off, 3)) (ht : (pc : Int) + off = (tgt : Int)) (kt : ¬ x = y → WP X tgt loc st S u v) (kf : x = y → WP X (pc + 3) loc st S u v) : WP X pc loc (vi y :: vi x :: st) S u v := by
  intro H locs ls hR hS hl; exact lv_icmp_ne C.ex C.co hd ht (fun h => kt h H locs ls hR hS hl) (fun h => kf h H locs ls hR hS hl)
theorem r_if_lt (C : Cx X K) {x : Int32} {off : Int} {tgt : Nat} (hd : decode (kc K) pc = .ok (.ifCond .lt off, 3)) (ht : (pc : Int) + off = (tgt : Int)) (kt : x < 0 → WP X tgt loc st S u v) (kf : ¬ x < 0 → WP X (pc + 3) loc st S u v) : WP X pc loc (vi x :: st) S u v := by
  intro H locs ls hR hS hl; exact lv_if_lt C.ex C.co hd ht (fun h => kt h H locs ls hR hS hl) (fun h => kf h H locs ls hR hS hl)
theorem r_icmp_lt (C : Cx X K) {x y : Int32} {off : Int} {tgt : Nat} (hd : decode (kc K) pc = .ok (.if_icmp .lt off, 3)) (ht : (pc : Int) + off = (tgt : Int)) (kt : x < y → WP X tgt loc st S u v) (kf : ¬ x < y → WP X (pc + 3) loc st S u v) : WP X pc loc (vi y :: vi x :: st) S u v := by
  intro H locs ls hR hS hl; exact lv_icmp_lt C.ex C.co hd ht (fun h => kt h H locs ls hR hS hl) (fun h => kf h H locs ls hR hS hl)
theorem r_if_ge (C : Cx X K) {x : Int32} {off : Int} {tgt : Nat} (hd : decode (kc K) pc = .ok (.ifCond .ge off, 3)) (ht : (pc : Int) + off = (tgt : Int)) (kt : 0 ≤ x → WP X tgt loc st S u v) (kf : ¬ 0 ≤ x → WP X (pc + 3) loc st S u v) : WP X pc loc (vi x :: st) S u v := by
  intro H locs ls hR hS hl; exact lv_if_ge C.ex C.co hd ht (fun h => kt h H locs ls hR hS hl) (fun h => kf h H locs ls hR hS hl)
theorem r_icmp_ge (C : Cx X K) {x y : Int32} {off : Int} {tgt : Nat} (hd : decode (kc K) pc = .ok (.if_icmp .ge off, 3)) (ht : (pc : Int) + off = (tgt : Int)) (kt : y ≤ x → WP X tgt loc st S u v) (kf : ¬ y ≤ x → WP X (pc + 3) loc st S u v) : WP X pc loc (vi y :: vi x :: st) S u v := by
  intro H locs ls hR hS hl; exact lv_icmp_ge C.ex C.co hd ht (fun h => kt h H locs ls hR hS hl) (fun h => kf h H locs ls hR hS hl)
theorem r_if_gt (C : Cx X K) {x : Int32} {off : Int} {tgt : Nat} (hd : decode (kc K) pc = .ok (.ifCond .gt off, 3)) (ht : (pc : Int) + off = (tgt : Int)) (kt : 0 < x → WP X tgt loc st S u v) (kf : ¬ 0 < x → WP X (pc + 3) loc st S u v) : WP X pc loc (vi x :: st) S u v := by
  intro H locs ls hR hS hl; exact lv_if_gt C.ex C.co hd ht (fun h => kt h H locs ls hR hS hl) (fun h => kf h H locs ls hR hS hl)
theorem r_icmp_gt (C : Cx X K) {x y : Int32} {off : Int} {tgt : Nat} (hd : decode (kc K) pc = .ok (.if_icmp .gt off, 3)) (ht : (pc : Int) + off = (tgt : Int)) (kt : y < x → WP X tgt loc st S u v) (kf : ¬ y < x → WP X (pc + 3) loc st S u v) : WP X pc loc (vi y :: vi x :: st) S u v := by
  intro H locs ls hR hS hl; exact lv_icmp_gt C.ex C.co hd ht (fun h => kt h H locs ls hR hS hl) (fun h => kf h H locs ls hR hS hl)
theorem r_if_le (C : Cx X K) {x : Int32} {off : Int} {tgt : Nat} (hd : decode (kc K) pc = .ok (.ifCond .le off, 3)) (ht : (pc : Int) + off = (tgt : Int)) (kt : x ≤ 0 → WP X tgt loc st S u v) (kf : ¬ x ≤ 0 → WP X (pc + 3) loc st S u v) : WP X pc loc (vi x :: st) S u v := by
  intro H locs ls hR hS hl; exact lv_if_le C.ex C.co hd ht (fun h => kt h H locs ls hR hS hl) (fun h => kf h H locs ls hR hS hl)
theorem r_icmp_le (C : Cx X K) {x y : Int32} {off : Int} {tgt : Nat} (hd : decode (kc K) pc = .ok (.if_icmp .le off, 3)) (ht : (pc : Int) + off = (tgt : Int)) (kt : x ≤ y → WP X tgt loc st S u v) (kf : ¬ x ≤ y → WP X (pc + 3) loc st S u v) : WP X pc loc (vi y :: vi x :: st) S u v := by
  intro H locs ls hR hS hl; exact lv_icmp_le C.ex C.co hd ht (fun h => kt h H locs ls hR hS hl) (fun h => kf h H locs ls hR hS hl)
theorem r_table (C : Cx X K) {dflt lo hi : Int} {offs : Array Int} {len : Nat} {x : Int32} (hd : decode (kc K) pc = .ok (.tableswitch dflt lo hi offs, len)) (hsz : hi - lo + 1 = offs.size) (h1 : -2147483648 ≤ lo ∧ hi < 2147483648)
    (kin : ∀ (i : Nat) (off : Int), offs[i]? = some off → x = Int32.ofInt (lo + i) → ∃ tgt : Nat, (pc : Int) + off = (tgt : Int) ∧ WP X tgt loc st S u v) (kout : (∀ i : Nat, i < offs.size → x ≠ Int32.ofInt (lo + i)) → ∃ tgt : Nat, (pc : Int) + dflt = (tgt : Int) ∧ WP X tgt loc st S u v) : WP X pc loc (vi x :: st) S u v := by
  intro H locs ls hR hS hl
  by_cases hx : x.toInt < lo ∨ hi < x.toInt
  · obtain ⟨tgt, ht, k⟩ := kout (fun i hi e => by
      have hr : (Int32.ofInt (lo + i)).toInt = lo + i := Int32.toInt_ofInt_of_le (by omega) (by omega)
      rw [e, hr] at hx
      omega)
    exact lv_tableOut C.ex C.co hd hx ht (k H locs ls hR hS hl)
  · have h2 : ¬ x.toInt < lo := fun q => hx (Or.inl q)
    have h3 : ¬ hi < x.toInt := fun q => hx (Or.inr q)
    have hlt : (x.toInt - lo).toNat < offs.size := by omega
    have hg : offs[(x.toInt - lo).toNat]? = some offs[(x.toInt - lo).toNat] := Array.getElem?_eq_getElem hlt
    obtain ⟨tgt, ht, k⟩ := kin _ _ hg (by
      rw [show lo + ((x.toInt - lo).toNat : Int) = x.toInt by omega]
      exact (Int32.ofInt_toInt x).symm)
    exact lv_tableIn C.ex C.co hd h2 h3 hg ht (k H locs ls hR hS hl)
theorem r_lookup (C : Cx X K) {dflt : Int} {ps : Array (Int × Int)} {len : Nat} {x : Int32} {off : Int} {tgt : Nat} (hd : decode (kc K) pc = .ok (.lookupswitch dflt ps, len)) (hp : (ps.toList.zip (ps.toList.drop 1)).all (fun (a, next) => a.1 < next.1) = true) (ho : Op.lookupswitch.offset ps.toList dflt x.toInt = off) (ht : (pc : Int) + off = (tgt : Int)) (k : WP X tgt loc st S u v) : WP X pc loc (vi x :: st) S u v := by
  intro H locs ls hR hS hl; exact lv_lookup C.ex C.co hd hp ho ht (k H locs ls hR hS hl)
theorem W.wide {k n : Nat} (h1 : u ≤ k) (h2 : v ≤ n) (kk : WP X pc loc st S k n) : WP X pc loc st S u v := by
  intro H locs ls hR hS hl; exact W.widen h1 h2 (kk H locs ls hR hS hl)
/-! returns -/
theorem r_iret (O : Ok X K Q) {x : Int32} (hr : ∃ ty, kT K = some ty ∧ narrow ty (.int x) = .int x) (hd : decode (kc K) pc = .ok (.ireturn, 1)) (hu : u ≤ (kR K).cells) (hv : v ≤ (kR K).slots) (hq : Q (some (vi x)) S) : WP X pc loc [vi x] S u v := by
  obtain ⟨ty, hr, hn⟩ := hr
  intro H locs ls hR hS hl
  refine W.widen hu hv ?_
  show W _ _ _ _ _ _ _ _ _ _ _ _ _ _ (xQ X) _
  rw [O.2.2.2]
  exact W.zret (v := x) (ty := ty) O.1.ex O.1.co (O.2.1.trans hr) hn (W.ret1 O hR hS hq) hS.2.2 hd O.2.2.1
theorem r_aret (O : Ok X K Q) {x : Option Nat} (hr : ∃ n, kT K = some (.object n)) (hd : decode (kc K) pc = .ok (.areturn, 1)) (hu : u ≤ (kR K).cells) (hv : v ≤ (kR K).slots) (hq : Q (some (vo x)) S) : WP X pc loc [vo x] S u v := by
  obtain ⟨n, hr⟩ := hr
  intro H locs ls hR hS hl
  refine W.widen hu hv ?_
  show W _ _ _ _ _ _ _ _ _ _ _ _ _ _ (xQ X) _
  rw [O.2.2.2]
  refine W.aret (v := vz (xz X) (vo x)) (rt := .object n) O.1.ex O.1.co (O.2.1.trans hr) (Or.inl ⟨n, rfl⟩) ?_ (W.ret1 O hR hS hq) hS.2.2 hd O.2.2.1
  cases x with
  | none => exact Or.inl rfl
  | some a => exact Or.inr ⟨_, rfl⟩
theorem r_vret (O : Ok X K Q) (hr : kT K = none) (hd : decode (kc K) pc = .ok (.return_, 1)) (hu : u ≤ (kR K).cells) (hv : v ≤ (kR K).slots) (hq : Q none S) : WP X pc loc [] S u v := by
  intro H locs ls hR hS hl
  refine W.widen hu hv ?_
  show W _ _ _ _ _ _ _ _ _ _ _ _ _ _ (xQ X) _
  rw [O.2.2.2]
  exact W.vret O.1.ex O.1.co (O.2.1.trans hr) (W.ret1 O hR hS hq) hS.2.2 hd O.2.2.1
/-! fields -/
def Fld (own : String) (idx c k : Nat) : Prop := c < 6 ∧ k < NC c ∧ (TC c k).1 = RC c ∧ Cond.fieldLink own idx (RC c) (TC c k).2.1 (TC c k).2.2.1 ∈ BIG
theorem fld_slot (C : Cx X K) {idx c k : Nat} (hf : Fld (ko K) idx c k) : ∃ (cf : Nat) (kf : Class) (fi : Nat) (f : Field), (xs X).fieldFound? (RC c) (TC c k).2.1 (TC c k).2.2.1 = some (cf, kf, fi, f) ∧ f.slot = (xD X).2.1 c k := by
  obtain ⟨cf, kf, fi, f, hi, hsl⟩ := (C.dk.1 c hf.1).1 k hf.2.1
  rw [hf.2.2.1] at hi
  exact ⟨cf, kf, fi, f, hi, hsl⟩
theorem r_get0 (C : Cx X K) {a c k idx : Nat} {w : AV} (ha : al S a c) (hf : Fld (ko K) idx c k) (hv : fv (xz X) S a k = vz (xz X) w) (hd : decode (kc K) pc = .ok (.getfield idx, 3)) (kk : WP X (pc + 3) loc (w :: st) S u v) : WP X pc loc (vr a :: st) S u v := by
  intro H locs ls hR hS hl
  obtain ⟨hc, hk, hT, hlink⟩ := id hf
  obtain ⟨cell, q1, q2, q3, q4⟩ := (hR.2 a ha.1).obj ha.2 hc
  obtain ⟨cf, kf, fi, f, hi, hsl⟩ := fld_slot C hf
  obtain ⟨-, hfc, kC, hkC, hkind⟩ := C.dk.1 c hc
  have hla := u_lays C.ts (lays_in c hc) hk
  rw [hT] at hla
  refine W.getf C.ex C.co C.ow (C.ts _ hlink) hi (u_facts hfc hkC hla hi).1 q1 (by rw [q3]; exact fun h => by cases h) (v := vz (xz X) w) ?_ rfl rfl hd (kk H locs ls hR hS hl)
  rw [hsl, q4 k hk, hv]
theorem r_getI (C : Cx X K) {a c k idx : Nat} (ha : al S a c) (hf : Fld (ko K) idx c k) (hr : isR c k = false) (hd : decode (kc K) pc = .ok (.getfield idx, 3)) (kk : WP X (pc + 3) loc (vi (gI S a k) :: st) S u v) : WP X pc loc (vr a :: st) S u v :=
  r_get0 C ha hf (by simp [fv, ha.2, hr, vz]) hd kk
theorem r_getR (C : Cx X K) {a c k idx : Nat} {o : Option Nat} (ha : al S a c) (hf : Fld (ko K) idx c k) (hr : isR c k = true) (ho : gR S a k = o) (hd : decode (kc K) pc = .ok (.getfield idx, 3)) (kk : WP X (pc + 3) loc (vo o :: st) S u v) : WP X pc loc (vr a :: st) S u v :=
  r_get0 C ha hf (by simp [fv, ha.2, hr, vz_o, ho]) hd kk
theorem r_put0 (C : Cx X K) {a c k idx : Nat} {w : AV} {S' : Sto} (ha : al S a c) (hf : Fld (ko K) idx c k) (hn : narrow (tyC c k) (vz (xz X) w) = vz (xz X) w) (hfit : fits (tyC c k) (vz (xz X) w) = true) (hfin : (TC c k).2.2.2 = false ∨ ((TC c k).2.2.2 = true ∧ (ky K).name = "<init>" ∧ RC c = ko K))
    (hsz : sN S' = sN S) (hfv : ∀ j, updV (fv (xz X) S a) k (vz (xz X) w) j = fv (xz X) S' a j) (hoth : ∀ b, b ≠ a → gI S' b = gI S b ∧ gR S' b = gR S b) (hd : decode (kc K) pc = .ok (.putfield idx, 3)) (kk : WP X (pc + 3) loc st S' u v) : WP X pc loc (w :: vr a :: st) S u v := by
  intro H locs ls hR hS hl
  obtain ⟨hc, hk, hT, hlink⟩ := id hf
  obtain ⟨cell, q1, q2, q3, q4⟩ := (hR.2 a ha.1).obj ha.2 hc
  obtain ⟨cf, kf, fi, f, hi, hsl⟩ := fld_slot C hf
  obtain ⟨hKS, hfc, kC, hkC, hkind⟩ := C.dk.1 c hc
  have hla := u_lays C.ts (lays_in c hc) hk
  have hw := C.ts _ (lays_in c hc _ (u_in_lay hk))
  have hpd := ty_ok c hc k hk
  have hap : ∀ x y, x < NC c → y < NC c → x ≠ y → (xD X).2.1 c x ≠ (xD X).2.1 c y := by
    intro x y hx hy hne
    obtain ⟨_, _, _, fa, hia, ea⟩ := hKS x hx
    obtain ⟨_, _, _, fb, hib, eb⟩ := hKS y hy
    rw [← ea, ← eb]
    refine u_apart (u_lays C.ts (lays_in c hc) hx) (u_lays C.ts (lays_in c hc) hy) hia hib ?_
    rw [(State.fieldFound?_type hia (ty_ok c hc x hx)).1, (State.fieldFound?_type hib (ty_ok c hc y hy)).1]
    exact nm_ok c hc x hx y hy hne
  rw [hT] at hla
  have hst := (u_facts hfc hkC hla hi).1
  have hend : ∀ (H1 : Heap), H1[xz X + a]? = some (cell.setSlot ((xD X).2.1 c k) (vz (xz X) w)) → H1.size = H.size → (∀ q, q ≠ xz X + a → H1[q]? = H[q]?) → WX X H1 (locs ++ [⟨xz X + a, (xD X).2.1 c k⟩]) u v (F0 (xm X) (pc + 3) ls (st.map (vz (xz X)))) := by
    intro H1 e1 e2 e3
    refine kk H1 _ ls (hR.set hsz e2 e3 (at1.ofObj ha.2 hc (t_OB.to (V := updV (fv (xz X) S a) k (vz (xz X) w)) ⟨_, e1, q2, q3, t_set q4 hap hk _⟩ (fun j _ => hfv j))) hoth) (hS.put e2 e3 (Nat.le_add_right _ _)) hl
  rcases hfin with hfin | ⟨hfin, hin, hown⟩
  · unfold u_lay at hw
    rw [if_neg (by rw [hfin]; decide), hT] at hw
    have h6 := u_store hfc hkC hkind hw hi hpd hn hfit
    refine W.putK C.ex C.co (f := f) ⟨C.ow, C.ts _ hlink, ⟨_, _, _, hi⟩, hst⟩ (by rw [q2]; exact h6) q1 q3 (by rw [hsl]; exact k2_hasslot (q4 k hk)) rfl rfl hd fun H1 e1 e2 e3 => ?_
    rw [hsl] at e1 ⊢
    exact hend H1 e1 e2 e3
  · unfold u_lay at hw
    rw [if_pos hfin, hT] at hw
    have hcf : (xm X).cls = cf := by
      obtain ⟨_, _, c', _, _, _, -, -, hf', -, -, -, hown2, -⟩ := Cond.laysFinal_spec hw
      have e1 : c' = cf := by have := hi.symm.trans hf'; simp at this; exact this.1.symm
      rw [← e1]; exact Option.some.inj (C.ow.symm.trans (by rw [← hown]; exact hown2))
    have h6 := u_fits hfc hkC hkind (Or.inr hw) hi hpd hn hfit
    refine W.putFinK C.ex C.co C.ow (C.ts _ hlink) hi hst hcf (C.nm.trans hin) (by rw [q2]; exact h6) q1 q3 (by rw [hsl]; exact k2_hasslot (q4 k hk)) rfl rfl hd fun H1 e1 e2 e3 => ?_
    rw [hsl] at e1 ⊢
    exact hend H1 e1 e2 e3
theorem r_putI (C : Cx X K) {a c k idx : Nat} {x : Int32} (ha : al S a c) (hf : Fld (ko K) idx c k) (hty : tyC c k = .int) (hfin : (TC c k).2.2.2 = false) (hd : decode (kc K) pc = .ok (.putfield idx, 3)) (kk : WP X (pc + 3) loc st (pI S a k x) u v) : WP X pc loc (vi x :: vr a :: st) S u v :=
  r_put0 (w := vi x) (S' := pI S a k x) C ha hf (by rw [hty]; rfl) (by rw [hty]; rfl) (Or.inl hfin) rfl (fv_pI (by rw [ha.2]; simp [isR, hty])) pI_other hd kk
theorem r_putFI (C : Cx X K) {a c k idx : Nat} {x : Int32} (ha : al S a c) (hf : Fld (ko K) idx c k) (hty : tyC c k = .int) (hfin : (TC c k).2.2.2 = true ∧ (ky K).name = "<init>" ∧ RC c = ko K) (hd : decode (kc K) pc = .ok (.putfield idx, 3)) (kk : WP X (pc + 3) loc st (pI S a k x) u v) : WP X pc loc (vi x :: vr a :: st) S u v :=
  r_put0 (w := vi x) (S' := pI S a k x) C ha hf (by rw [hty]; rfl) (by rw [hty]; rfl) (Or.inr hfin) rfl (fv_pI (by rw [ha.2]; simp [isR, hty])) pI_other hd kk
theorem r_putZ (C : Cx X K) {a c k idx : Nat} {x : Int32} (ha : al S a c) (hf : Fld (ko K) idx c k) (hty : tyC c k = .boolean) (hx : x = 0 ∨ x = 1) (hfin : (TC c k).2.2.2 = false) (hd : decode (kc K) pc = .ok (.putfield idx, 3)) (kk : WP X (pc + 3) loc st (pI S a k x) u v) : WP X pc loc (vi x :: vr a :: st) S u v :=
  r_put0 (w := vi x) (S' := pI S a k x) C ha hf (by rw [hty]; rcases hx with rfl | rfl <;> rfl) (by rw [hty]; rcases hx with rfl | rfl <;> rfl) (Or.inl hfin) rfl (fv_pI (by rw [ha.2]; simp [isR, hty])) pI_other hd kk
theorem r_putFR (C : Cx X K) {a c k idx : Nat} {b : Nat} (ha : al S a c) (hf : Fld (ko K) idx c k) (hty : (∃ n, tyC c k = .object n) ∨ ∃ t, tyC c k = .array t) (hfin : (TC c k).2.2.2 = true ∧ (ky K).name = "<init>" ∧ RC c = ko K) (hd : decode (kc K) pc = .ok (.putfield idx, 3)) (kk : WP X (pc + 3) loc st (pR S a k (some b)) u v) : WP X pc loc (vr b :: vr a :: st) S u v := by
  have e : isR (kd a) k = true := by rw [ha.2]; rcases hty with ⟨n, h⟩ | ⟨t, h⟩ <;> simp [isR, h]
  refine r_put0 (w := vr b) (S' := pR S a k (some b)) C ha hf ?_ ?_ (Or.inr hfin) rfl (fv_pR (x := some b) e) pR_other hd kk
  · rcases hty with ⟨n, h⟩ | ⟨t, h⟩ <;> rw [h] <;> rfl
  · rcases hty with ⟨n, h⟩ | ⟨t, h⟩ <;> rw [h] <;> rfl
/-! arrays -/
theorem ix_in {x : Int32} {n : Nat} (h : 0 ≤ x.toInt ∧ x.toInt < n) : ¬ (x < 0 ∨ n ≤ x.toNatClampNeg) := vp_in_iff.mpr h
theorem ix_lt {x : Int32} {n : Nat} (h : 0 ≤ x.toInt ∧ x.toInt < n) : x.toNatClampNeg < n := Nat.not_le.mp fun q => vp_in_iff.mpr h (Or.inr q)
theorem r_iald (C : Cx X K) {a : Nat} {i : Int32} (ha : al S a 7) (hi : 0 ≤ i.toInt ∧ i.toInt < ln a) (hd : decode (kc K) pc = .ok (.iaload, 1)) (kk : WP X (pc + 1) loc (vi (gI S a i.toNatClampNeg) :: st) S u v) : WP X pc loc (vi i :: vr a :: st) S u v := by
  intro H locs ls hR hS hl
  have hc := (hR.2 a ha.1).arr ha.2 (by decide)
  refine W.iald (v := .int (gI S a i.toNatClampNeg)) C.ex C.co hc ((C.dk.2.1 7 (by decide) (by decide)).1 _ _) (fun q => by cases q) (by rw [arrV_size]; exact ix_in hi) (by rw [arrV_read _ _ (ix_lt hi)]; simp [ev, ha.2]) rfl rfl hd (kk H locs ls hR hS hl)
theorem r_bald (C : Cx X K) {a : Nat} {i : Int32} (ha : al S a 6) (hi : 0 ≤ i.toInt ∧ i.toInt < ln a) (hd : decode (kc K) pc = .ok (.baload, 1)) (kk : WP X (pc + 1) loc (vi (gI S a i.toNatClampNeg) :: st) S u v) : WP X pc loc (vi i :: vr a :: st) S u v := by
  intro H locs ls hR hS hl
  have hc := (hR.2 a ha.1).arr ha.2 (by decide)
  refine W.bald (v := .int (gI S a i.toNatClampNeg)) C.ex C.co hc ((C.dk.2.1 6 (by decide) (by decide)).1 _ _) (fun q => by cases q) (by rw [arrV_size]; exact ix_in hi) (by rw [arrV_read _ _ (ix_lt hi)]; simp [ev, ha.2]) rfl rfl hd (kk H locs ls hR hS hl)
theorem r_zald (C : Cx X K) {a : Nat} {i : Int32} (ha : al S a 8) (hi : 0 ≤ i.toInt ∧ i.toInt < ln a) (hd : decode (kc K) pc = .ok (.baload, 1)) (kk : WP X (pc + 1) loc (vi (gI S a i.toNatClampNeg) :: st) S u v) : WP X pc loc (vi i :: vr a :: st) S u v := by
  intro H locs ls hR hS hl
  have hc := (hR.2 a ha.1).arr ha.2 (by decide)
  refine W.zald (v := .int (gI S a i.toNatClampNeg)) C.ex C.co hc ((C.dk.2.1 8 (by decide) (by decide)).1 _ _) (fun q => by cases q) (by rw [arrV_size]; exact ix_in hi) (by rw [arrV_read _ _ (ix_lt hi)]; simp [ev, ha.2]) rfl rfl hd (kk H locs ls hR hS hl)
theorem r_aald (C : Cx X K) {a c : Nat} {i : Int32} {o : Option Nat} (ha : al S a c) (hc : 9 ≤ c ∧ c < 12) (hi : 0 ≤ i.toInt ∧ i.toInt < ln a) (ho : gR S a i.toNatClampNeg = o) (hd : decode (kc K) pc = .ok (.aaload, 1)) (kk : WP X (pc + 1) loc (vo o :: st) S u v) : WP X pc loc (vi i :: vr a :: st) S u v := by
  intro H locs ls hR hS hl
  have hcl := (hR.2 a ha.1).arr ha.2 (by omega)
  refine W.aald (v := vz (xz X) (vo o)) (ty := eT c) C.ex C.co hcl ((C.dk.2.1 c (by omega) hc.2).1 _ _) ?_ (fun q => by cases q) (by rw [arrV_size]; exact ix_in hi) (by rw [arrV_read _ _ (ix_lt hi), vz_o]; simp [ev, ha.2, ho, show ¬ c < 9 by omega]) rfl rfl hd (kk H locs ls hR hS hl)
  rcases (show c = 9 ∨ c = 10 ∨ c = 11 by omega) with rfl | rfl | rfl <;> rfl
theorem ev_pI {z : Nat} {S : Sto} {a k : Nat} {x : Int32} (hr : kd a < 9) : updV (ev z S a) k (.int x) = ev z (pI S a k x) a := by
  funext j
  by_cases e : j = k
  · subst e
    simp [updV, ev, hr, gI_pI, upd]
  · simp [updV, ev, gI_pI, upd, e, gR_pI]
theorem ev_pR {z : Nat} {S : Sto} {a k : Nat} {x : Option Nat} (hr : ¬ kd a < 9) : updV (ev z S a) k (rz z x) = ev z (pR S a k x) a := by
  funext j
  by_cases e : j = k
  · subst e
    simp [updV, ev, hr, gR_pR, va_up]
  · simp [updV, ev, gR_pR, va_up, e, gI_pR]
theorem r_iast (C : Cx X K) {a : Nat} {i x : Int32} (ha : al S a 7) (hi : 0 ≤ i.toInt ∧ i.toInt < ln a) (hd : decode (kc K) pc = .ok (.iastore, 1)) (kk : WP X (pc + 1) loc st (pI S a i.toNatClampNeg x) u v) : WP X pc loc (vi x :: vi i :: vr a :: st) S u v := by
  intro H locs ls hR hS hl
  have hc := (hR.2 a ha.1).arr ha.2 (by decide)
  refine W.iast C.ex C.co hc ((C.dk.2.1 7 (by decide) (by decide)).1 _ _) (fun q => by cases q) (by rw [arrV_size]; exact ix_in hi) rfl rfl hd fun H1 e1 e2 e3 => ?_
  refine kk H1 _ ls (hR.set rfl e2 e3 (at1.ofArr ha.2 (by decide) ?_) pI_other) (hS.put e2 e3 (Nat.le_add_right _ _)) hl
  rw [e1, arrV_store, ev_pI (by rw [ha.2]; decide)]
theorem r_bast (C : Cx X K) {a : Nat} {i x : Int32} (ha : al S a 6) (hi : 0 ≤ i.toInt ∧ i.toInt < ln a) (hd : decode (kc K) pc = .ok (.bastore, 1)) (kk : WP X (pc + 1) loc st (pI S a i.toNatClampNeg x.toInt8.toInt32) u v) : WP X pc loc (vi x :: vi i :: vr a :: st) S u v := by
  intro H locs ls hR hS hl
  have hc := (hR.2 a ha.1).arr ha.2 (by decide)
  refine W.bast C.ex C.co hc ((C.dk.2.1 6 (by decide) (by decide)).1 _ _) (fun q => by cases q) (by rw [arrV_size]; exact ix_in hi) rfl rfl hd fun H1 e1 e2 e3 => ?_
  refine kk H1 _ ls (hR.set rfl e2 e3 (at1.ofArr ha.2 (by decide) ?_) pI_other) (hS.put e2 e3 (Nat.le_add_right _ _)) hl
  rw [e1, narrow_byte, arrV_store, ev_pI (by rw [ha.2]; decide)]
theorem r_zast (C : Cx X K) {a : Nat} {i x : Int32} (ha : al S a 8) (hx : x = 0 ∨ x = 1) (hi : 0 ≤ i.toInt ∧ i.toInt < ln a) (hd : decode (kc K) pc = .ok (.bastore, 1)) (kk : WP X (pc + 1) loc st (pI S a i.toNatClampNeg x) u v) : WP X pc loc (vi x :: vi i :: vr a :: st) S u v := by
  intro H locs ls hR hS hl
  have hc := (hR.2 a ha.1).arr ha.2 (by decide)
  have hn : narrow .boolean (.int x) = .int x := by rcases hx with rfl | rfl <;> decide +kernel
  refine W.zast C.ex C.co hc ((C.dk.2.1 8 (by decide) (by decide)).1 _ _) (fun q => by cases q) (by rw [arrV_size]; exact ix_in hi) rfl rfl hd fun H1 e1 e2 e3 => ?_
  refine kk H1 _ ls (hR.set rfl e2 e3 (at1.ofArr ha.2 (by decide) ?_) pI_other) (hS.put e2 e3 (Nat.le_add_right _ _)) hl
  rw [e1, hn, arrV_store, ev_pI (by rw [ha.2]; decide)]
theorem r_aast (C : Cx X K) {a c b d : Nat} {i : Int32} (ha : al S a c) (hc : 9 ≤ c ∧ c < 12) (hb : al S b d) (hd6 : d < 6) (hcd : eT c = .object (RC d)) (hi : 0 ≤ i.toInt ∧ i.toInt < ln a) (hd : decode (kc K) pc = .ok (.aastore, 1)) (kk : WP X (pc + 1) loc st (pR S a i.toNatClampNeg (some b)) u v) : WP X pc loc (vr b :: vi i :: vr a :: st) S u v := by
  intro H locs ls hR hS hl
  have hcl := (hR.2 a ha.1).arr ha.2 (by omega)
  obtain ⟨cellV, g1, g2, g3, -⟩ := (hR.2 b hb.1).obj hb.2 hd6
  have hcls := (C.dk.1 d hd6).2
  have hra := (C.dk.2.1 c (by omega) hc.2).2
  rw [hcd] at hra
  obtain ⟨kA, comp, k1, k2, k3, -⟩ := hra
  have hcomp : comp = (xD X).1 d := Option.some.inj (k3.symm.trans hcls.1)
  subst hcomp
  obtain ⟨kC, hkC, -⟩ := hcls.2
  refine W.aast C.ex C.co hcl (fun q h => by cases h) (fun h => by cases h) k1 k2 rfl hkC ⟨fun q => ix_in hi (Or.inl q), by rw [arrV_size]; exact ix_lt hi⟩ g1 (fun q h => by rw [g3] at h; cases h) (by rw [g2]; exact hkC) (by rw [g2]; exact va_assign hcls) rfl rfl hd fun H1 e1 e2 e3 => ?_
  refine kk H1 _ ls (hR.set rfl e2 e3 (at1.ofArr ha.2 (by omega) ?_) pR_other) (hS.put e2 e3 (Nat.le_add_right _ _)) hl
  rw [e1, arrV_store, ← ev_pR (by rw [ha.2]; omega)]
  rfl
theorem r_aastN (C : Cx X K) {a c : Nat} {i : Int32} (ha : al S a c) (hc : 9 ≤ c ∧ c < 12) (hi : 0 ≤ i.toInt ∧ i.toInt < ln a) (hd : decode (kc K) pc = .ok (.aastore, 1)) (kk : WP X (pc + 1) loc st (pR S a i.toNatClampNeg none) u v) : WP X pc loc (vo none :: vi i :: vr a :: st) S u v := by
  intro H locs ls hR hS hl
  have hcl := (hR.2 a ha.1).arr ha.2 (by omega)
  obtain ⟨Cn, hCn⟩ : ∃ Cn, eT c = .object Cn := by rcases (show c = 9 ∨ c = 10 ∨ c = 11 by omega) with rfl | rfl | rfl <;> exact ⟨_, rfl⟩
  have harr := (C.dk.2.1 c (by omega) hc.2).1 (ln a) (ev (xz X) S a)
  rw [hCn] at harr
  refine va_WaastN (C := Cn) C.ex C.co hcl harr (fun h => by cases h) (by rw [arrV_size]; exact ix_in hi) rfl rfl hd fun H1 e1 e2 e3 => ?_
  refine kk H1 _ ls (hR.set rfl e2 e3 (at1.ofArr ha.2 (by omega) ?_) pR_other) (hS.put e2 e3 (Nat.le_add_right _ _)) hl
  rw [e1, arrV_store, ← ev_pR (by rw [ha.2]; omega)]
  rfl
theorem r_alen (C : Cx X K) {a c : Nat} {n : Int32} (ha : al S a c) (hc : 6 ≤ c ∧ c < 12) (hn : Int32.ofNat (ln a) = n) (hd : decode (kc K) pc = .ok (.arraylength, 1)) (kk : WP X (pc + 1) loc (vi n :: st) S u v) : WP X pc loc (vr a :: st) S u v := by
  intro H locs ls hR hS hl
  have hcl := (hR.2 a ha.1).arr ha.2 (by omega)
  subst hn
  exact W.alen (n := Int32.ofNat (ln a)) C.ex C.co hcl ((C.dk.2.1 c (by omega) hc.2).1 _ _) (by rw [arrV_size]; try rfl) rfl rfl hd (kk H locs ls hR hS hl)
/-! new cells -/
theorem vaS_push {H H1 : Heap} {locs : List Loc} (hS : va_S (fun q => xz X ≤ q) (xs X).heap H locs) (hz : H1.size = H.size + 1) (ho : ∀ q : Nat, q < H.size → H1[q]? = H[q]?) : va_S (fun q => xz X ≤ q) (xs X).heap H1 locs := ⟨Nat.le_trans hS.1 (by omega), fun x h1 h2 => (ho x (Nat.lt_of_lt_of_le h1 hS.1)).trans (hS.2.1 x h1 h2), hS.2.2⟩
def New (own : String) (idx c : Nat) : Prop := c < 6 ∧ Cond.classLink own idx (RC c) ∈ BIG ∧ Cond.instantiable (RC c) (NC c) ∈ BIG ∧ Cond.initialized (RC c) ∈ BIG
theorem dv_fv {z c k : Nat} {S : Sto} (hk : kd (sN S) = c) (hty : (∃ n, tyC c k = .object n) ∨ (∃ t, tyC c k = .array t) ∨ tyC c k = .int ∨ tyC c k = .boolean ∨ tyC c k = .byte) : defaultValue (tyC c k) = fv z (nw S) (sN S) k := by
  simp only [fv, hk, gR_nw, gI_nw, if_true]
  rcases hty with ⟨n, h⟩ | ⟨t, h⟩ | h | h | h <;> simp [isR, h, rz, va_rf] <;> rfl
theorem r_new (C : Cx X K) {c idx : Nat} (hN : New (ko K) idx c) (hty : ∀ k, k < NC c → (∃ n, tyC c k = .object n) ∨ (∃ t, tyC c k = .array t) ∨ tyC c k = .int ∨ tyC c k = .boolean ∨ tyC c k = .byte) (hk : kd (sN S) = c) (hu : u + 1 ≤ (kR K).cells) (hv : v + NC c ≤ (kR K).slots) (hd : decode (kc K) pc = .ok (.new idx, 3)) (kk : WP X (pc + 3) loc (vr (sN S) :: st) (nw S) (u + 1) (v + NC c)) : WP X pc loc st S u v := by
  intro H locs ls hR hS hl
  obtain ⟨hc, n1, n2, n3⟩ := hN
  have hKn := C.dk.1 c hc
  refine W.newcK C.ex C.co C.ow (C.ts _ n1) (C.ts _ n2) (C.ts _ n3) rfl hd (by rw [C.rm]; exact hu) (by rw [C.rm]; exact hv) hKn.2.1 rfl fun H1 kC hkC e1 z1 o1 => ?_
  rw [hR.1] at e1 ⊢
  refine kk H1 locs ls (hR.push rfl z1 o1 (at1.ofObj hk hc ((u_born (tyC c) C.ts (lays_in c hc) hKn hkC e1 (ty_ok c hc)).to fun k hk' => dv_fv hk (hty k hk'))) nw_other) (vaS_push hS z1 o1) hl
theorem r_newa (C : Cx X K) {c : Nat} {atype : ArrayType} {n : Int32} (hc : 6 ≤ c ∧ c < 9) (hty : newarray.typeOf atype = eT c) (hw : Cond.arrayClass (newarray.typeOf atype) ∈ BIG) (hk : kd (sN S) = c) (hn : n.toInt = ln (sN S)) (hb : ln (sN S) ≤ 60000) (hu : u + 1 ≤ (kR K).cells) (hv : v + ln (sN S) ≤ (kR K).slots) (hd : decode (kc K) pc = .ok (.newarray atype, 2)) (kk : WP X (pc + 2) loc (vr (sN S) :: st) (nw S) (u + 1) (v + ln (sN S))) : WP X pc loc (vi n :: st) S u v := by
  intro H locs ls hR hS hl
  have hN : n.toNatClampNeg = ln (sN S) := by rw [show n.toNatClampNeg = n.toInt.toNat from rfl, hn]; omega
  refine va_newaK C.ex C.co (C.ts _ hw) rfl hd rfl (by rw [Int32.lt_iff_toInt_lt, hn]; simp) hN ?_ (by rw [C.rm]; exact hu) (by rw [C.rm]; exact hv) rfl fun H1 cA e1 z1 o1 hAr hNm => ?_
  · rw [hty]
    rcases (show c = 6 ∨ c = 7 ∨ c = 8 by omega) with rfl | rfl | rfl <;> simp [eT, componentBytes] <;> omega
  · rw [hR.1] at e1 ⊢
    refine kk H1 locs ls (hR.push rfl z1 o1 (at1.ofArr hk hc.1 ?_) nw_other) (vaS_push hS z1 o1) hl
    have hra := (C.dk.2.1 c hc.1 (by omega)).2
    have hcA : cA = (xD X).2.2 c := by
      rw [hty] at hNm
      rcases (show c = 6 ∨ c = 7 ∨ c = 8 by omega) with rfl | rfl | rfl <;> exact Option.some.inj (hNm.symm.trans hra)
    rw [e1, hcA]
    congr 2
    funext j
    rw [hty]
    simp only [ev, hk, gI_nw, if_true, hc.2]
    rcases (show c = 6 ∨ c = 7 ∨ c = 8 by omega) with rfl | rfl | rfl <;> rfl
theorem r_newq (C : Cx X K) {c idx : Nat} {n : Int32} (hc : 9 ≤ c ∧ c < 12) (hw : ∃ E, eT c = .object E ∧ Cond.classLink (ko K) idx E ∈ BIG ∧ va_AO E (xs X)) (hk : kd (sN S) = c) (hn : n.toInt = ln (sN S)) (hb : ln (sN S) ≤ 60000) (hu : u + 1 ≤ (kR K).cells) (hv : v + ln (sN S) ≤ (kR K).slots) (hd : decode (kc K) pc = .ok (.anewarray idx, 3)) (kk : WP X (pc + 3) loc (vr (sN S) :: st) (nw S) (u + 1) (v + ln (sN S))) : WP X pc loc (vi n :: st) S u v := by
  intro H locs ls hR hS hl
  obtain ⟨E, hE, hcl, hao⟩ := hw
  have hN : n.toNatClampNeg = ln (sN S) := by rw [show n.toNatClampNeg = n.toInt.toNat from rfl, hn]; omega
  refine W.anew C.ex C.co C.ow (C.ts _ hcl) (va_AO.use hao) rfl hd rfl (by rw [Int32.lt_iff_toInt_lt, hn]; simp) (by rw [hN]; omega) (by rw [C.rm]; exact hu) (by rw [C.rm, hN]; exact hv) fun cA kA comp f1 f2 f3 f4 => ?_
  rw [hN]
  generalize hH1 : H.push ({ cls := cA, slots := Array.replicate (ln (sN S)) .null, vm := .none } : Cell) = H1
  have z1 : H1.size = H.size + 1 := by rw [← hH1, Array.size_push]
  have e1 : H1[H.size]? = some (arrV cA (ln (sN S)) (fun _ => .null)) := by rw [← hH1, Array.getElem?_push_size, ← arrV_new]
  have o1 : ∀ q : Nat, q < H.size → H1[q]? = H[q]? := fun q hq => by rw [← hH1, Array.getElem?_push, if_neg (Nat.ne_of_lt hq)]
  rw [hR.1] at e1 ⊢
  refine kk H1 locs ls (hR.push rfl z1 o1 (at1.ofArr hk (by omega) ?_) nw_other) (vaS_push hS z1 o1) hl
  have hra := (C.dk.2.1 c (by omega) hc.2).2
  rw [hE] at hra
  obtain ⟨-, -, -, -, -, k4⟩ := hra
  rw [e1, show cA = (xD X).2.2 c from Option.some.inj (f1.symm.trans k4)]
  congr 2
  funext j
  simp only [ev, hk, gR_nw, if_true, show ¬ c < 9 by omega, if_false]
  rfl
/-! calls -/
theorem Pcz.blind {D : Dd} {z : Nat} {av : List AV} : FrameBlind (Pcz D z av S) := fun a U g mk h => ⟨h.1, h.2.1, DK.moved (u := U) (U := U.calling g mk a) (Vm.Alike.refl U.vm) h.2.2⟩
def CalB (own : String) (idx : Nat) (K' : Mt) (n : Nat) : Prop := Cond.methodLink own idx (ky K') ∈ BIG ∧ Cond.initialized (ko K') ∈ BIG ∧ Cond.code (ky K') (kc K') (kL K') (kT K') ∈ BIG ∧ (ko K' ≠ "java/lang/invoke/MethodHandle" ∧ ko K' ≠ "java/lang/invoke/VarHandle" ∧ (parseMethodDescriptor (ky K').desc).map (fun d => d.parameters.length) = some n)
theorem kw_good {K' : Mt} (h : Cond.code (ky K') (kc K') (kL K') (kT K') ∈ BIG) : GoodIn BIG (kw K') := fun w hw => by
  rcases List.mem_cons.mp hw with rfl | hw
  · exact BIG_good _ h
  · exact BIG_good _ hw
def Rm (K K' : Mt) : Prop := (kR K').frames + 1 ≤ (kR K).frames ∧ 8 + (kL K' + 11) + (kR K').locals ≤ (kR K).locals
theorem cal_b (C : Cx X K) {idx n : Nat} {K' : Mt} (h : CalB (ko K) idx K' n) (hr : Rm K K') : CallB (xR X) (xs X) (xa X) (ko K) idx (ky K') (kc K') (kL K') (kT K') (kw K') (kR K') (kR K').cells (kR K').slots n :=
  callB_of n C.ts (kw_good h.2.2.1) rfl rfl rfl (C.ts _ h.2.1) (C.ts _ h.1) h.2.2.2 (by rw [C.rm]; exact hr)
theorem callGo {K' : Mt} {av rest : List AV} {Qk : Option AV → Sto → Prop} {H : Heap} {locs : List Loc} {ls : Array Slot} (C : Cx X K) (hRun : va_Run (xp X) (xl X) (xe X) (xR X) (xs X) (xm X) (xa X) (xb X) (xt X) (xc X) H locs u v (kR K').cells (kR K').slots (F0 (xm X) pc ls (st.map (vz (xz X)))) (rest.map (vz (xz X))) (Qc (xD X) (xz X) Qk (av.map (vz (xz X))).toArray) (fun q => xz X ≤ q))
    (hS : va_S (fun q => xz X ≤ q) (xs X).heap H locs) (hl : lv_has ls (xc X).maxLocals (mz (xz X) loc)) (hk : ∀ r S', Qk r S' → WP X (pc + 3) loc (r.toList ++ rest) S' (u + (kR K').cells) (v + (kR K').slots)) : WX X H locs u v (F0 (xm X) pc ls (st.map (vz (xz X)))) := by
  intro T hT Y
  obtain ⟨w, st₀, t, T', L, h0, Y', hL, e1, e2, ⟨⟨r, S', hw, hq, hR'⟩, hz, hkp⟩, go⟩ := hRun T hT Y
  have hwv : w = r.map (vz (xz X)) := by injection hw
  rw [h0] at hz hkp
  have hS' : va_S (fun q => xz X ≤ q) (xs X).heap T'.heap (locs ++ L) := ⟨Nat.le_trans hS.1 (by rw [e1]; exact hz), fun q h1 h2 => by rw [e1, hkp q (Nat.lt_of_lt_of_le h1 hS.1) h2]; exact hS.2.1 q h1 h2, fun q hq' => by
      rcases List.mem_append.mp hq' with h | h
      · exact hS.2.2 q h
      · exact hL q h⟩
  obtain ⟨t2, a1, b1⟩ := hk r S' hq T'.heap (locs ++ L) ls (by rw [e1]; exact hR') hS' hl T' rfl Y'
  refine ⟨t2, go t2 ?_, b1⟩
  rw [hwv]
  have he : (r.map (vz (xz X))).toList ++ rest.map (vz (xz X)) = (r.toList ++ rest).map (vz (xz X)) := by cases r <;> simp
  rw [he]
  exact a1
theorem pcz_in (C : Cx X K) {av : List AV} {H : Heap} (hR : Rep (xD X) (xz X) S H) : ∀ U : State, U.heap = H → (xs X).WarmedH U.vm → Pcz (xD X) (xz X) av S ((av.map (vz (xz X))).toArray) U := fun U hU hW => ⟨rfl, by rw [hU]; exact hR, DK.moved hW.alike C.dk⟩
def CalV (own : String) (idx : Nat) (K' : Mt) (n : Nat) : Prop := CalB own idx K' n ∧ Cond.instanceMethod (ky K') ∈ BIG ∧ Cond.selects (ko K') (ky K') (ky K') ∈ BIG
def catS (rest : List AV) : Nat := avn rest
theorem avn_cat (z : Nat) : ∀ av : List AV, ((av.map (vz z)).map fun w => w.category).sum = avn av
  | [] => rfl
  | Sum.inr (Sum.inr x) :: t => by
    show 2 + ((t.map (vz z)).map fun w => w.category).sum = avn t + 2
    rw [avn_cat z t]; omega
  | Sum.inl x :: t => by
    show 1 + ((t.map (vz z)).map fun w => w.category).sum = avn t + 1
    rw [avn_cat z t]; omega
  | Sum.inr (Sum.inl none) :: t => by
    show 1 + ((t.map (vz z)).map fun w => w.category).sum = avn t + 1
    rw [avn_cat z t]; omega
  | Sum.inr (Sum.inl (some a)) :: t => by
    show 1 + ((t.map (vz z)).map fun w => w.category).sum = avn t + 1
    rw [avn_cat z t]; omega
theorem r_callV (C : Cx X K) (K' : Mt) {idx : Nat} {a c : Nat} {av : List AV} (rest : List AV) (ha : al S a c) (hc : c < 6) (hcc : RC c = ko K') (hcal : CalV (ko K) idx K' av.length) (hrm : Rm K K') (hu : u + (kR K').cells ≤ (kR K).cells) (hv : v + (kR K').slots ≤ (kR K).slots) (hst : st = av.reverse ++ vr a :: rest) (hrest : avn rest ≤ 8) (hd : decode (kc K) pc = .ok (.invokevirtual idx, 3))
    (h : CALL K' (vr a :: av) S (fun r S' => WP X (pc + 3) loc (r.toList ++ rest) S' (u + (kR K').cells) (v + (kR K').slots))) : WP X pc loc st S u v := by
  intro H locs ls hR hS hl
  subst hst
  obtain ⟨cell, q1, q2, q3, -⟩ := (hR.2 a ha.1).obj ha.2 hc
  refine callGo (K' := K') (Qk := fun r S' => WP X (pc + 3) loc (r.toList ++ rest) S' (u + (kR K').cells) (v + (kR K').slots)) (av := vr a :: av) (rest := rest) C ?_ hS hl (fun r S' h => h)
  refine va_runV (As := av.map (vz (xz X))) (b := xz X + a) ⟨C.ex, C.co, C.ml, C.ow, C.ts⟩ (h (xl X) (xD X) (xz X)) (C := RC c) ⟨cal_b C hcal.1 hrm, C.ts _ hcal.2.1, ?_⟩ ⟨Pcz.blind, ⟨cell, q1, by rw [q3]; rfl, by rw [q2]; exact (C.dk.1 c hc).2.1⟩, pcz_in C hR⟩ rfl (by simp) (hl.1.trans C.ml) ?_ ?_ hd (by rw [C.rm]; exact ⟨hu, hv⟩)
  · rw [hcc]; exact C.ts _ hcal.2.2
  · simp [F0, vz]
  · refine lv_room ?_
    rw [avn_cat]; exact hrest
def CalS (own : String) (idx : Nat) (K' : Mt) (n : Nat) : Prop := CalB own idx K' n ∧ Cond.static (ky K') ∈ BIG
theorem r_callS (C : Cx X K) (K' : Mt) {idx : Nat} {av : List AV} (rest : List AV) (hcal : CalS (ko K) idx K' av.length) (hrm : Rm K K') (hu : u + (kR K').cells ≤ (kR K).cells) (hv : v + (kR K').slots ≤ (kR K).slots) (hst : st = av.reverse ++ rest) (hrest : avn rest ≤ 8) (hd : decode (kc K) pc = .ok (.invokestatic idx, 3))
    (h : CALL K' av S (fun r S' => WP X (pc + 3) loc (r.toList ++ rest) S' (u + (kR K').cells) (v + (kR K').slots))) : WP X pc loc st S u v := by
  intro H locs ls hR hS hl
  subst hst
  refine callGo (K' := K') (Qk := fun r S' => WP X (pc + 3) loc (r.toList ++ rest) S' (u + (kR K').cells) (v + (kR K').slots)) (av := av) (rest := rest) C ?_ hS hl (fun r S' h => h)
  refine va_runS (As := av.map (vz (xz X))) ⟨C.ex, C.co, C.ml, C.ow, C.ts⟩ (h (xl X) (xD X) (xz X)) ⟨cal_b C hcal.1 hrm, C.ts _ hcal.2⟩ ⟨Pcz.blind, pcz_in C hR⟩ rfl (by simp) (hl.1.trans C.ml) ?_ ?_ hd (by rw [C.rm]; exact ⟨hu, hv⟩)
  · simp [F0]
  · refine lv_room ?_
    rw [avn_cat]; exact hrest
def CalI (own : String) (idx : Nat) (K' : Mt) (n : Nat) : Prop := CalB own idx K' n ∧ (ky K').name = "<init>" ∧ kT K' = none ∧ Cond.instanceMethod (ky K') ∈ BIG
theorem r_callI (C : Cx X K) (K' : Mt) {idx : Nat} {a : Nat} {av : List AV} (rest : List AV) (hcal : CalI (ko K) idx K' av.length) (hrm : Rm K K') (hu : u + (kR K').cells ≤ (kR K).cells) (hv : v + (kR K').slots ≤ (kR K).slots) (hst : st = av.reverse ++ vr a :: rest) (hrest : avn rest ≤ 8) (hd : decode (kc K) pc = .ok (.invokespecial idx, 3))
    (h : CALL K' (vr a :: av) S (fun r S' => WP X (pc + 3) loc (r.toList ++ rest) S' (u + (kR K').cells) (v + (kR K').slots))) : WP X pc loc st S u v := by
  intro H locs ls hR hS hl
  subst hst
  refine callGo (K' := K') (Qk := fun r S' => WP X (pc + 3) loc (r.toList ++ rest) S' (u + (kR K').cells) (v + (kR K').slots)) (av := vr a :: av) (rest := rest) C ?_ hS hl (fun r S' h => h)
  have hb := cal_b C hcal.1 hrm
  rw [hcal.2.2.1] at hb
  refine va_runI (As := av.map (vz (xz X))) (b := xz X + a) ⟨C.ex, C.co, C.ml, C.ow, C.ts⟩ (h (xl X) (xD X) (xz X)) ⟨hb, hcal.2.1, C.ts _ hcal.2.2.2⟩ ⟨Pcz.blind, pcz_in C hR⟩ rfl (by simp) (hl.1.trans C.ml) ?_ ?_ hd (by rw [C.rm]; exact ⟨hu, hv⟩)
  · simp [F0, vz]
  · refine lv_room ?_
    rw [avn_cat]; exact hrest
theorem r_objInit (C : Cx X K) {idx a : Nat} (h1 : Cond.methodLink (ko K) idx objectInit ∈ BIG) (h2 : Cond.instanceMethod objectInit ∈ BIG) (h3 : Cond.code objectInit ⟨#[0xb1]⟩ 1 none ∈ BIG) (hf : 1 ≤ (kR K).frames) (hlo : avn st + 12 ≤ (kR K).locals) (hd : decode (kc K) pc = .ok (.invokespecial idx, 3)) (kk : WP X (pc + 3) loc st S u v) : WP X pc loc (vr a :: st) S u v := by
  intro H locs ls hR hS hl
  refine W.objInit C.ex C.co C.ow (C.ts _ h1) (C.ts _ h2) (C.ts _ h3) rfl hl.1 rfl hd (by rw [C.rm]; exact hf) ?_ (kk H locs ls hR hS hl)
  rw [C.rm, avn_cat]
  show 2 * 0 + avn st + 12 ≤ _
  omega
def MathW (own : String) (idx : Nat) (y : MethodName) (b : ByteArray) (n : Nat) : Prop := Cond.methodLink own idx y ∈ BIG ∧ Cond.static y ∈ BIG ∧ Cond.initialized "java/lang/Math" ∈ BIG ∧ Cond.code y b n (some .int) ∈ BIG
theorem r_max (C : Cx X K) {idx : Nat} {x y : Int32} (h : MathW (ko K) idx Lib.Math.max.name Lib.Math.max.code 2) (hf : 1 ≤ (kR K).frames) (hlo : avn st + 13 ≤ (kR K).locals) (hu : u ≤ (kR K).cells) (hv : v ≤ (kR K).slots) (hd : decode (kc K) pc = .ok (.invokestatic idx, 3)) (kk : WP X (pc + 3) loc (vi (if x < y then y else x) :: st) S u v) : WP X pc loc (vi y :: vi x :: st) S u v := by
  intro H locs ls hR hS hl
  exact va_mmax C.ex C.co hl.1.symm C.ow (C.ts _ h.1) (C.ts _ h.2.1) (C.ts _ h.2.2.1) (C.ts _ h.2.2.2) (by rw [C.rm]; exact hf) (by rw [C.rm, avn_cat]; exact hlo) (by rw [C.rm]; exact hu) (by rw [C.rm]; exact hv) hd (kk H locs ls hR hS hl)
theorem r_min (C : Cx X K) {idx : Nat} {x y : Int32} (h : MathW (ko K) idx Lib.Math.min.name Lib.Math.min.code 2) (hf : 1 ≤ (kR K).frames) (hlo : avn st + 13 ≤ (kR K).locals) (hu : u ≤ (kR K).cells) (hv : v ≤ (kR K).slots) (hd : decode (kc K) pc = .ok (.invokestatic idx, 3)) (kk : WP X (pc + 3) loc (vi (if y < x then y else x) :: st) S u v) : WP X pc loc (vi y :: vi x :: st) S u v := by
  intro H locs ls hR hS hl
  exact va_mmin C.ex C.co hl.1.symm C.ow (C.ts _ h.1) (C.ts _ h.2.1) (C.ts _ h.2.2.1) (C.ts _ h.2.2.2) (by rw [C.rm]; exact hf) (by rw [C.rm, avn_cat]; exact hlo) (by rw [C.rm]; exact hu) (by rw [C.rm]; exact hv) hd (kk H locs ls hR hS hl)
theorem r_abs (C : Cx X K) {idx : Nat} {x : Int32} (h : MathW (ko K) idx Lib.Math.abs.name Lib.Math.abs.code 1) (hf : 1 ≤ (kR K).frames) (hlo : avn st + 13 ≤ (kR K).locals) (hu : u ≤ (kR K).cells) (hv : v ≤ (kR K).slots) (hd : decode (kc K) pc = .ok (.invokestatic idx, 3)) (kk : WP X (pc + 3) loc (vi (if 0 ≤ x then x else 0 - x) :: st) S u v) : WP X pc loc (vi x :: st) S u v := by
  intro H locs ls hR hS hl
  exact va_mabs C.ex C.co hl.1.symm C.ow (C.ts _ h.1) (C.ts _ h.2.1) (C.ts _ h.2.2.1) (C.ts _ h.2.2.2) (by rw [C.rm]; exact hf) (by rw [C.rm, avn_cat]; exact hlo) (by rw [C.rm]; exact hu) (by rw [C.rm]; exact hv) hd (kk H locs ls hR hS hl)
end ROWS
