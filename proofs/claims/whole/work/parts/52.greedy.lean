/-! the least pair -/
theorem sg_mul {z k : Int} (hk : 0 < k) : sg (z * k) = sg z := by
  unfold sg
  have h1 : 0 ≤ z * k ↔ 0 ≤ z := ⟨fun h => by
    rcases (show z < 0 ∨ 0 ≤ z by omega) with c | c
    · have := Int.mul_neg_of_neg_of_pos c hk
      omega
    · exact c, fun h => Int.mul_nonneg h (by omega)⟩
  have h2 : z * k ≤ 0 ↔ z ≤ 0 := ⟨fun h => by
    rcases (show 0 < z ∨ z ≤ 0 by omega) with c | c
    · have := Int.mul_pos c hk
      omega
    · exact c, fun h => Int.mul_nonpos_of_nonpos_of_nonneg h (by omega)⟩
  by_cases c : 0 ≤ z
  · rw [if_pos c, if_pos (h1.mpr c)]
    by_cases c2 : z ≤ 0
    · rw [if_pos c2, if_pos (h2.mpr c2)]
    · rw [if_neg c2, if_neg (fun y => c2 (h2.mp y))]
  · rw [if_neg c, if_neg (fun y => c (h1.mp y))]
theorem sg_lt {z : Int} : sg z < 0 ↔ z < 0 := by
  unfold sg
  by_cases c : 0 ≤ z
  · rw [if_pos c]
    by_cases c2 : z ≤ 0
    · rw [if_pos c2]; constructor <;> intro h
      · exact absurd h (by decide)
      · omega
    · rw [if_neg c2]; constructor <;> intro h
      · exact absurd h (by decide)
      · omega
  · rw [if_neg c]; constructor <;> intro h
    · omega
    · decide
theorem sg_eq {z : Int} : sg z = 0 ↔ z = 0 := by
  unfold sg
  by_cases c : 0 ≤ z
  · rw [if_pos c]
    by_cases c2 : z ≤ 0
    · rw [if_pos c2]; constructor <;> intro h
      · omega
      · rfl
    · rw [if_neg c2]; constructor <;> intro h
      · exact absurd h (by decide)
      · omega
  · rw [if_neg c]; constructor <;> intro h
    · exact absurd h (by decide)
    · omega
theorem sg_ge {z : Int} : (0 : Int32) ≤ sg z ↔ 0 ≤ z := by
  have := sg_lt (z := z)
  rw [← Int32.not_lt]
  constructor
  · intro h; rcases (show z < 0 ∨ 0 ≤ z by omega) with c | c
    · exact absurd (this.mpr c) h
    · exact c
  · intro h c; have := this.mp c; omega
section
variable {N n kd : Nat} {d : Nat → Nat → Nat} {px py : Nat → Int32} {A : Aj} {R : Nat → Nat}
/-- how two linkages compare -/
def cmv (n kd : Nat) (d : Nat → Nat → Nat) (A : Aj) (c e x y : Nat) : Int := uT n kd d A c e * uB kd A x y - uT n kd d A x y * uB kd A c e
theorem uT_b (hk : kd < 5) (hd : DD d) (hA : AI n kd d A) {c e : Nat} (hc : c ∈ aF A) (he : e ∈ aF A) (hne : c ≠ e) : 0 ≤ uT n kd d A c e ∧ uT n kd d A c e ≤ 1000000000000 := by
  have h1 := hA.2.2.1 c e hc he hne
  refine ⟨h1.1, ?_⟩
  by_cases k4 : kd = 4
  · have := h1.2 k4
    unfold uT
    rw [VT_n3 (by omega)]
    show ((uC n kd d A c e : Nat) : Int) ≤ _
    omega
  · exact (VT_bd (kd := kd) (dep := dpt n A) (P := bc A c) (Q := bc A e) hd.1 hd.2.1 hd.2.2).2.2 k4
theorem pr_b {t : Int} {b : Nat} (h0 : 0 ≤ t) (h1 : t ≤ 1000000000000) (hb : b ≤ 262144) : 0 ≤ t * (b : Int) ∧ t * (b : Int) ≤ 262144000000000000 := pb_le (A := 1000000000000) (B := 262144) h0 h1 (by omega) (by omega)
theorem J_cmp {σ : St} {a b : Int} (h1 : -4000000000000000000 ≤ a ∧ a ≤ 4000000000000000000) (h2 : -4000000000000000000 ≤ b ∧ b ≤ 4000000000000000000) : fJ13_compare_74951 N (lZ a) (lZ b) σ = some (sg (a - b), σ) := by
  have ta := lZ_T (z := a) (by omega) (by omega)
  have tb := lZ_T (z := b) (by omega) (by omega)
  unfold fJ13_compare_74951 sg
  by_cases c : 0 ≤ a - b
  · rw [if_pos ((lg_cmp_ge _ _).mpr (Int64.le_iff_toInt_le.mpr (by rw [ta, tb]; omega))), if_pos c]
    by_cases c2 : a - b ≤ 0
    · rw [if_pos c2, if_pos ((lg_cmp_eq _ _).mpr (by rw [show a = b by omega]))]
    · rw [if_neg c2, if_neg (fun z => by
        have := congrArg Int64.toInt ((lg_cmp_eq _ _).mp z)
        rw [ta, tb] at this; omega)]
  · rw [if_neg (fun z => by
      have := Int64.le_iff_toInt_le.mp ((lg_cmp_ge _ _).mp z)
      rw [ta, tb] at this; omega), if_neg c]
theorem X_cmp {σ : St} (hk : kd < 5) (hd : DD d) (hA : AI n kd d A) (hX : CX σ n kd d A R) {c e x y : Nat} (hc : c ∈ aF A) (he : e ∈ aF A) (hce : c ≠ e) (hx : x ∈ aF A) (hy : y ∈ aF A) (hxy : x ≠ y) : fX1_compareLinkages N (nI (R c)) (nI (R e)) (nI (R x)) (nI (R y)) σ = some (sg (cmv n kd d A c e x y), σ) := by
  have r1 := hX.2.2.1.1 c hc
  have r2 := hX.2.2.1.1 e he
  have r3 := hX.2.2.1.1 x hx
  have r4 := hX.2.2.1.1 y hy
  have l1 := hX.2.2.2.2.1 c e hc he hce
  have l2 := hX.2.2.2.2.1 x y hx hy hxy
  have b1 := uT_b hk hd hA hc he hce
  have b2 := uT_b hk hd hA hx hy hxy
  have u1 := hA.1.ub (kd := kd) hc he
  have u2 := hA.1.ub (kd := kd) hx hy
  have p1 := pr_b b1.1 b1.2 u2.2
  have p2 := pr_b b2.1 b2.2 u1.2
  unfold fX1_compareLinkages
  rw [gd_t (ibn r1 (by decide)), gd_t (ibn r2 (by decide)), gd_t (ibn r3 (by decide)), gd_t (ibn r4 (by decide)), gd_t (ibn r3 (by decide)), gd_t (ibn r4 (by decide)), gd_t (ibn r1 (by decide)), gd_t (ibn r2 (by decide)), cl _ (by omega), cl _ (by omega), cl _ (by omega), cl _ (by omega), Nat.one_mul, Nat.one_mul, l1.2.1, l1.2.2, l2.2.1, l2.2.2, lZ_N, lZ_N, lZ_mul, lZ_mul, J_cmp (by omega) (by omega), bd_s]
  rfl
theorem M_cmv {τ : St} (hk : kd < 5) (hd : DD d) (hA : AI n kd d A) {c e x y : Nat} (hc : c ∈ aF A) (he : e ∈ aF A) (hce : c ≠ e) (hx : x ∈ aF A) (hy : y ∈ aF A) (hxy : x ≠ y) : fX8_compare N (lZ (rT (uT n kd d A c e) (uB kd A c e))) (lN (rB (uT n kd d A c e) (uB kd A c e))) (lZ (rT (uT n kd d A x y) (uB kd A x y))) (lN (rB (uT n kd d A x y) (uB kd A x y))) τ = some (sg (cmv n kd d A c e x y), τ) := by
  have b1 := uT_b hk hd hA hc he hce
  have b2 := uT_b hk hd hA hx hy hxy
  have u1 := hA.1.ub (kd := kd) hc he
  have u2 := hA.1.ub (kd := kd) hx hy
  have n1 := rT_nn (B := uB kd A c e) u1.1 b1.1
  have n2 := rT_nn (B := uB kd A x y) u2.1 b2.1
  have a1 := rT_ab (T := uT n kd d A c e) u1.1
  have a2 := rT_ab (T := uT n kd d A x y) u2.1
  have c1 := rB_le (T := uT n kd d A c e) (B := uB kd A c e)
  have c2 := rB_le (T := uT n kd d A x y) (B := uB kd A x y)
  have p1 := pr_b (t := rT (uT n kd d A c e) (uB kd A c e)) (b := rB (uT n kd d A x y) (uB kd A x y)) n1 (by omega) (by omega)
  have p2 := pr_b (t := rT (uT n kd d A x y) (uB kd A x y)) (b := rB (uT n kd d A c e) (uB kd A c e)) n2 (by omega) (by omega)
  have t1 := lZ_T (z := rT (uT n kd d A c e) (uB kd A c e)) (by omega) (by omega)
  have t2 := lZ_T (z := rT (uT n kd d A x y) (uB kd A x y)) (by omega) (by omega)
  have t3 := pk_lT (n := rB (uT n kd d A c e) (uB kd A c e)) (by omega)
  have t4 := pk_lT (n := rB (uT n kd d A x y) (uB kd A x y)) (by omega)
  rw [M_cmp (by rw [t1, t4]; omega) (by rw [t2, t3]; omega), t1, t2, t3, t4]
  unfold cmv
  rw [r_cmp u1.1 u2.1, sg_mul]
  exact Int.mul_pos (by have := gg_pos (T := uT n kd d A c e) u1.1; omega) (by have := gg_pos (T := uT n kd d A x y) u2.1; omega)
theorem cm_neg {c e x y : Nat} : cmv n kd d A c e x y = - cmv n kd d A x y c e := by unfold cmv; omega
theorem cm_tr (hA : AI n kd d A) {a b c e x y : Nat} (ha : a ∈ aF A) (hb : b ∈ aF A) (hc : c ∈ aF A) (he : e ∈ aF A) (hx : x ∈ aF A) (hy : y ∈ aF A) (h1 : cmv n kd d A a b c e ≤ 0) (h2 : cmv n kd d A c e x y ≤ 0) : cmv n kd d A a b x y ≤ 0 := by
  unfold cmv at *
  have := fl_trans (T := uT n kd d A a b) (U := uT n kd d A c e) (V := uT n kd d A x y) (B := uB kd A a b) (C := uB kd A c e) (E := uB kd A x y) (hA.1.ub (kd := kd) hc he).1 (by omega) (by omega)
  omega
abbrev cd (c e : Nat) : Nat := 64 * c + e
abbrev fp (A : Aj) (c e : Nat) : Prop := c ∈ aF A ∧ e ∈ aF A ∧ c < e
/-- the first of the least pairs, and whether there are others -/
def Bst (n kd : Nat) (d : Nat → Nat → Nat) (A : Aj) (D : Nat → Nat → Prop) (c e : Nat) (t : Bool) : Prop := D c e ∧ (∀ x y, D x y → 0 ≤ cmv n kd d A x y c e ∧ (cmv n kd d A x y c e = 0 → cd c e ≤ cd x y)) ∧ (t = true ↔ ∃ x y, D x y ∧ cd x y ≠ cd c e ∧ cmv n kd d A x y c e = 0)
theorem Bst.con {D E : Nat → Nat → Prop} {c e : Nat} {t : Bool} (h : Bst n kd d A D c e t) (hi : ∀ x y, D x y ↔ E x y) : Bst n kd d A E c e t := by
  have : D = E := by funext x y; exact propext (hi x y)
  rw [← this]; exact h
theorem Bst.u {D : Nat → Nat → Prop} {c e x y : Nat} {t u : Bool} (hn : n ≤ 20) (hF : ∀ x y, D x y → fp A x y) (hI : I1 n A) (h : Bst n kd d A D c e t) (h2 : Bst n kd d A D x y u) : c = x ∧ e = y ∧ t = u := by
  have a1 := h.2.1 x y h2.1
  have a2 := h2.2.1 c e h.1
  have ng := cm_neg (n := n) (kd := kd) (d := d) (A := A) (c := c) (e := e) (x := x) (y := y)
  have b1 := a1.2 (by omega)
  have b2 := a2.2 (by omega)
  have l1 := hI.2.2.2.1 e (hF c e h.1).2.1
  have l2 := hI.2.2.2.1 y (hF x y h2.1).2.1
  have k1 := hI.1
  have hce : c = x ∧ e = y := by unfold cd at *; omega
  obtain ⟨rfl, rfl⟩ := hce
  refine ⟨rfl, rfl, ?_⟩
  exact Bool.eq_iff_iff.mpr (h.2.2.trans h2.2.2.symm)
theorem Bst.one {x y : Nat} (hx : x ∈ aF A) : Bst n kd d A (fun a b => a = x ∧ b = y) x y false := by
  have z : cmv n kd d A x y x y = 0 := by unfold cmv; omega
  refine ⟨⟨rfl, rfl⟩, ?_, ?_⟩
  · rintro a b ⟨rfl, rfl⟩; exact ⟨by omega, fun _ => Nat.le_refl _⟩
  · constructor
    · intro h; cases h
    · rintro ⟨a, b, ⟨rfl, rfl⟩, h, -⟩; exact absurd rfl h
/-- one pair more -/
theorem Bst.step {D : Nat → Nat → Prop} {c e x y : Nat} {t : Bool} (hA : AI n kd d A) (hF : ∀ x y, D x y → fp A x y) (h : Bst n kd d A D c e t) (hx : fp A x y) (hlt : ∀ a b, D a b → cd a b < cd x y) : (cmv n kd d A x y c e < 0 → Bst n kd d A (fun a b => D a b ∨ (a = x ∧ b = y)) x y false) ∧ (cmv n kd d A x y c e = 0 → Bst n kd d A (fun a b => D a b ∨ (a = x ∧ b = y)) c e true) ∧ (0 < cmv n kd d A x y c e → Bst n kd d A (fun a b => D a b ∨ (a = x ∧ b = y)) c e t) := by
  have fce := hF c e h.1
  refine ⟨fun z => ⟨Or.inr ⟨rfl, rfl⟩, ?_, ?_⟩, fun z => ⟨Or.inl h.1, ?_, ?_⟩, fun z => ⟨Or.inl h.1, ?_, ?_⟩⟩
  · have zz : cmv n kd d A x y x y = 0 := by unfold cmv; omega
    rintro a b (hD | ⟨rfl, rfl⟩)
    · have o := h.2.1 a b hD
      have fab := hF a b hD
      have ng := cm_neg (n := n) (kd := kd) (d := d) (A := A) (c := a) (e := b) (x := x) (y := y)
      have : ¬ cmv n kd d A a b x y ≤ 0 := fun w => by
        have ng2 := cm_neg (n := n) (kd := kd) (d := d) (A := A) (c := c) (e := e) (x := a) (y := b)
        have ng3 := cm_neg (n := n) (kd := kd) (d := d) (A := A) (c := c) (e := e) (x := x) (y := y)
        have := cm_tr hA fce.1 fce.2.1 fab.1 fab.2.1 hx.1 hx.2.1 (by omega) w
        omega
      exact ⟨by omega, fun w => by omega⟩
    · exact ⟨by omega, fun _ => Nat.le_refl _⟩
  · constructor
    · intro w; cases w
    · rintro ⟨a, b, hD | ⟨rfl, rfl⟩, hne, w⟩
      · have fab := hF a b hD
        have o := h.2.1 a b hD
        have ng2 := cm_neg (n := n) (kd := kd) (d := d) (A := A) (c := c) (e := e) (x := a) (y := b)
        have ng3 := cm_neg (n := n) (kd := kd) (d := d) (A := A) (c := c) (e := e) (x := x) (y := y)
        have := cm_tr hA fce.1 fce.2.1 fab.1 fab.2.1 hx.1 hx.2.1 (by omega) (by omega)
        omega
      · exact absurd rfl hne
  · rintro a b (hD | ⟨rfl, rfl⟩)
    · exact h.2.1 a b hD
    · exact ⟨by omega, fun _ => by have := hlt c e h.1; omega⟩
  · refine ⟨fun _ => ⟨x, y, Or.inr ⟨rfl, rfl⟩, by have := hlt c e h.1; omega, z⟩, fun _ => rfl⟩
  · rintro a b (hD | ⟨rfl, rfl⟩)
    · exact h.2.1 a b hD
    · exact ⟨by omega, fun w => by omega⟩
  · rw [h.2.2]
    constructor
    · rintro ⟨a, b, hD, w⟩; exact ⟨a, b, Or.inl hD, w⟩
    · rintro ⟨a, b, hD | ⟨rfl, rfl⟩, hne, w⟩
      · exact ⟨a, b, hD, hne, w⟩
      · omega
/-- with the ties told -/
abbrev aTie (A : Aj) (s : Nat) : Aj := (A.1, A.2.1, A.2.2.1, A.2.2.2.1, A.2.2.2.2.1, s)
def bN (t : Bool) : Nat := if t = true then 1 else 0
def gStep (n kd : Nat) (d : Nat → Nat → Nat) (A : Aj) (c e : Nat) (t : Bool) : Aj := aJoin n kd d (aTie A (aS A + bN t)) c e (aS A + bN t)
theorem Bst.pc (hk : kd < 5) (hd : DD d) (hA : AI n kd d A) {c e : Nat} {t : Bool} (h : Bst n kd d A (fp A) c e t) : PC n kd d A c e := by
  obtain ⟨hc, he, hlt⟩ := h.1
  have le : ∀ a b, a ∈ aF A → b ∈ aF A → a ≠ b → uT n kd d A c e * uB kd A a b ≤ uT n kd d A a b * uB kd A c e := by
    intro a b ha hb hab
    rcases Nat.lt_or_ge a b with z | z
    · have := (h.2.1 a b ⟨ha, hb, z⟩).1
      unfold cmv at this; omega
    · have := (h.2.1 b a ⟨hb, ha, by omega⟩).1
      unfold cmv at this
      rw [uT_sym hk hd hA.1 ha hb, uB_sym (c := a)]; omega
  exact ⟨hc, he, by omega, fun E hE e1 e2 => ⟨le c E hc hE (fun z => e1 z.symm), le e E he hE (fun z => e2 z.symm)⟩⟩
theorem gStep_AI (hk : kd < 5) (hd : DD d) (hA : AI n kd d A) {c e : Nat} {t : Bool} (h : Bst n kd d A (fp A) c e t) : AI n kd d (gStep n kd d A c e t) := AI.join (A := aTie A (aS A + bN t)) hk hd hA (h.pc hk hd hA)
end
