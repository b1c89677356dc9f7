/-! the joining of clusters, told once for both -/
theorem fl_trans {T U V : Int} {B C E : Nat} (hC : 1 ≤ C) (h1 : T * C ≤ U * B) (h2 : U * E ≤ V * C) : T * E ≤ V * B := by
  have c0 : (0 : Int) < C := by omega
  have m1 := Int.mul_le_mul_of_nonneg_right h1 (show (0 : Int) ≤ E by omega)
  have m2 := Int.mul_le_mul_of_nonneg_right h2 (show (0 : Int) ≤ B by omega)
  refine Int.le_of_mul_le_mul_left ?_ c0
  generalize (C : Int) = c at *
  generalize (B : Int) = b at *
  generalize (E : Int) = e at *
  have e1 : c * (T * e) = T * c * e := by grind
  have e2 : c * (V * b) = V * c * b := by grind
  have e3 : U * b * e = U * e * b := by grind
  rw [e1, e2]
  omega
theorem fl_red {T U : Int} {B X : Nat} (hB : 1 ≤ B) : (T * X ≤ U * B ↔ rT T B * X ≤ U * (rB T B : Int)) ∧ (U * B ≤ T * X ↔ U * (rB T B : Int) ≤ rT T B * X) := by
  have g0 : (0 : Int) < gg T B := by have := gg_pos (T := T) hB; omega
  have e1 := rT_mul T B
  have e3 : ((rB T B : Int)) * (gg T B : Int) = B := by rw [← Int.natCast_mul, rB_mul]
  have a1 : T * X = gg T B * (rT T B * X) := by
    conv => lhs; rw [← e1]
    generalize (gg T B : Int) = g at *
    generalize rT T B = t at *
    grind
  have a2 : U * B = gg T B * (U * (rB T B : Int)) := by
    rw [← e3]
    generalize (gg T B : Int) = g at *
    generalize (rB T B : Int) = t at *
    grind
  rw [a1, a2]
  exact ⟨⟨fun h => Int.le_of_mul_le_mul_left h g0, fun h => Int.mul_le_mul_of_nonneg_left h (by omega)⟩, ⟨fun h => Int.le_of_mul_le_mul_left h g0, fun h => Int.mul_le_mul_of_nonneg_left h (by omega)⟩⟩
section
variable {kd : Nat} {d : Nat → Nat → Nat} {dep dep2 : Nat → Nat} {P Q C D E : Nat → Bool}
theorem nz_1 (hP : s20 P) (h : nem P) : 1 ≤ nz P := nz_pos (by obtain ⟨i, hi⟩ := h; exact ⟨i, hP i hi, hi⟩)
theorem red {M : Int} {O : Nat} (hk : kd < 5) (hs : ∀ i j, d i j = d j i) (hz : ∀ i, d i i = 0) (h : JN d kd dep dep2 P C D E) (hC : s20 C) (hD : s20 D) (hE : s20 E) (n1 : nem C) (n2 : nem D) (n3 : nem E)
    (zx : VT kd d dep C D * VB kd C E ≤ VT kd d dep C E * VB kd C D) (zy : VT kd d dep C D * VB kd D E ≤ VT kd d dep D E * VB kd C D) (mx : M * VB kd C E ≤ VT kd d dep C E * O) (my : M * VB kd D E ≤ VT kd d dep D E * O) : M * VB kd P E ≤ VT kd d dep2 P E * O := by
  rcases Int.le_total (VT kd d dep C D * O) (M * VB kd C D) with c | c
  · exact red0 hk hs hz h hC hD hE n1 n2 n3 c mx my
  · have r := red0 hk hs hz h hC hD hE n1 n2 n3 (Int.le_refl _) zx zy
    exact fl_trans (VB_ok (kd := kd) (nz_1 hC n1) (nz_1 hD n2)).1 c r
end
abbrev Aj : Type := Nat × (Nat → Int32) × List Nat × ((Nat → Nat) × (Nat → Nat)) × ((Nat → Int) × (Nat → Nat)) × Nat
abbrev aK (A : Aj) : Nat := A.1
abbrev aC (A : Aj) : Nat → Int32 := A.2.1
abbrev aF (A : Aj) : List Nat := A.2.2.1
abbrev aA (A : Aj) : Nat → Nat := A.2.2.2.1.1
abbrev aB (A : Aj) : Nat → Nat := A.2.2.2.1.2
abbrev aT (A : Aj) : Nat → Int := A.2.2.2.2.1.1
abbrev aO (A : Aj) : Nat → Nat := A.2.2.2.2.1.2
abbrev aS (A : Aj) : Nat := A.2.2.2.2.2
abbrev bc (A : Aj) (c : Nat) : Nat → Bool := bt (aC A c)
def dpt (n : Nat) (A : Aj) (i : Nat) : Nat := pcp (fun k => bc A (n + k) i) (aK A)
abbrev uC (n kd : Nat) (d : Nat → Nat → Nat) (A : Aj) (c e : Nat) : Nat := VC kd d (dpt n A) (bc A c) (bc A e)
abbrev uT (n kd : Nat) (d : Nat → Nat → Nat) (A : Aj) (c e : Nat) : Int := VT kd d (dpt n A) (bc A c) (bc A e)
abbrev uB (kd : Nat) (A : Aj) (c e : Nat) : Nat := VB kd (bc A c) (bc A e)
/-- two clusters with a point in common -/
abbrev sh (A : Aj) (c e : Nat) : Prop := ∃ i, bc A c i = true ∧ bc A e i = true
/-- clusters -/
def I1 (n : Nat) (A : Aj) : Prop := aK A + (aF A).length = n ∧ n ≤ 20 ∧ List.Pairwise (· < ·) (aF A) ∧ (∀ c, c ∈ aF A → c < n + aK A) ∧ (∀ c, c ∈ aF A → (∀ i, bc A c i = true → i < n) ∧ nem (bc A c)) ∧ (∀ c e, c ∈ aF A → e ∈ aF A → c ≠ e → dsj (bc A c) (bc A e)) ∧ (∀ i, i < n → ∃ c, c ∈ aF A ∧ bc A c i = true) ∧ ∀ c, c < n → ∀ i, bc A c i = decide (i = c)
/-- steps -/
def I2 (n : Nat) (A : Aj) : Prop := (∀ k, k < aK A → aA A k < aB A k ∧ aB A k < n + k ∧ (∀ i, bc A (n + k) i = (bc A (aA A k) i || bc A (aB A k) i)) ∧ dsj (bc A (aA A k)) (bc A (aB A k)) ∧ nem (bc A (aA A k)) ∧ nem (bc A (aB A k)) ∧ ∀ i, bc A (n + k) i = true → i < n) ∧ (∀ k c, k < aK A → c ∈ aF A → sh A (n + k) c → ∀ i, bc A (n + k) i = true → bc A c i = true) ∧ (∀ a b, a < b → b < aK A → sh A (n + a) (n + b) → ∀ i, bc A (n + a) i = true → bc A (n + b) i = true) ∧ ∀ c i, c ∈ aF A → bc A c i = true → dpt n A i + 1 ≤ nz (bc A c)
/-- linkages and heights -/
def I3 (n kd : Nat) (d : Nat → Nat → Nat) (A : Aj) : Prop := (∀ c e, c ∈ aF A → e ∈ aF A → c ≠ e → 0 ≤ uT n kd d A c e ∧ (kd = 4 → uC n kd d A c e ≤ 524288000000)) ∧ (∀ k c e, k < aK A → c ∈ aF A → e ∈ aF A → c ≠ e → sh A (n + k) c → aT A k * uB kd A c e ≤ uT n kd d A c e * aO A k) ∧ (∀ k, k < aK A → 0 ≤ aT A k ∧ aT A k ≤ 1000000000000 ∧ 1 ≤ aO A k ∧ aO A k ≤ 262144 ∧ gg (aT A k) (aO A k) = 1) ∧ ∀ a b, a < b → b < aK A → sh A (n + a) (n + b) → aT A a * aO A b ≤ aT A b * aO A a
def AI (n kd : Nat) (d : Nat → Nat → Nat) (A : Aj) : Prop := I1 n A ∧ I2 n A ∧ I3 n kd d A
def rmv (c : Nat) (F : List Nat) : List Nat := F.filter (fun x => decide (x ≠ c))
theorem rmv_mem {c x : Nat} {F : List Nat} : x ∈ rmv c F ↔ x ∈ F ∧ x ≠ c := by
  unfold rmv; rw [List.mem_filter]; simp
theorem rmv_no {c : Nat} : ∀ {F : List Nat}, c ∉ F → rmv c F = F := by
  intro F h
  unfold rmv
  refine List.filter_eq_self.mpr (fun x hx => ?_)
  simp
  intro e; exact h (e ▸ hx)
theorem rmv_len {c : Nat} : ∀ {F : List Nat}, List.Pairwise (· < ·) F → c ∈ F → (rmv c F).length + 1 = F.length := by
  intro F
  induction F with
  | nil => intro _ h; exact absurd h List.not_mem_nil
  | cons a F ih =>
    intro hp hc
    rw [List.pairwise_cons] at hp
    by_cases e : a = c
    · subst e
      have hn : a ∉ F := fun z => absurd (hp.1 a z) (Nat.lt_irrefl a)
      have : rmv a (a :: F) = rmv a F := by unfold rmv; rw [List.filter_cons_of_neg (by simp)]
      rw [this, rmv_no hn]; rfl
    · have hF : c ∈ F := by
        rcases List.mem_cons.mp hc with z | z
        · exact absurd z.symm e
        · exact z
      have : rmv c (a :: F) = a :: rmv c F := by unfold rmv; rw [List.filter_cons_of_pos (by simp [e])]
      rw [this, List.length_cons, List.length_cons, ih hp.2 hF]
theorem rmv_pw {c : Nat} {F : List Nat} (h : List.Pairwise (· < ·) F) : List.Pairwise (· < ·) (rmv c F) := h.filter _
def aJoin (n kd : Nat) (d : Nat → Nat → Nat) (A : Aj) (C D s : Nat) : Aj := (aK A + 1, (fun c => if c = n + aK A then aC A C ||| aC A D else aC A c), rmv D (rmv C (aF A)) ++ [n + aK A], ((fun k => if k = aK A then min C D else aA A k), fun k => if k = aK A then max C D else aB A k), ((fun k => if k = aK A then rT (uT n kd d A C D) (uB kd A C D) else aT A k), fun k => if k = aK A then rB (uT n kd d A C D) (uB kd A C D) else aO A k), s)
/-- what may be joined -/
def PC (n kd : Nat) (d : Nat → Nat → Nat) (A : Aj) (C D : Nat) : Prop := C ∈ aF A ∧ D ∈ aF A ∧ C ≠ D ∧ ∀ E, E ∈ aF A → E ≠ C → E ≠ D → uT n kd d A C D * uB kd A C E ≤ uT n kd d A C E * uB kd A C D ∧ uT n kd d A C D * uB kd A D E ≤ uT n kd d A D E * uB kd A C D
abbrev DD (d : Nat → Nat → Nat) : Prop := (∀ i j, d i j ≤ 2000000) ∧ (∀ i j, d i j = d j i) ∧ ∀ i, d i i = 0
section
variable {n kd : Nat} {d : Nat → Nat → Nat} {A : Aj} {C D s : Nat}
theorem I1.s20 (h : I1 n A) {c : Nat} (hc : c ∈ aF A) : s20 (bc A c) := fun i hi => by
  have := (h.2.2.2.2.1 c hc).1 i hi
  have := h.2.1
  omega
theorem I1.nem (h : I1 n A) {c : Nat} (hc : c ∈ aF A) : nem (bc A c) := (h.2.2.2.2.1 c hc).2
theorem I1.ub (h : I1 n A) {c e : Nat} (hc : c ∈ aF A) (he : e ∈ aF A) : 1 ≤ uB kd A c e ∧ uB kd A c e ≤ 262144 := VB_ok (nz_1 (h.s20 hc) (h.nem hc)) (nz_1 (h.s20 he) (h.nem he))
theorem uT_sym (hk : kd < 5) (hd : DD d) (h : I1 n A) {c e : Nat} (hc : c ∈ aF A) (he : e ∈ aF A) : uT n kd d A c e = uT n kd d A e c := VT_sym hk hd.2.1 (h.s20 hc) (h.s20 he) (h.nem hc) (h.nem he)
theorem uB_sym {c e : Nat} : uB kd A c e = uB kd A e c := VB_sym
/-- the clusters behind a join -/
theorem jC_old {c : Nat} (h : c ≠ n + aK A) : bc (aJoin n kd d A C D s) c = bc A c := by
  funext i
  show bt (if c = n + aK A then _ else aC A c) i = _
  rw [if_neg h]
theorem jC_new (i : Nat) : bc (aJoin n kd d A C D s) (n + aK A) i = (bc A C i || bc A D i) := by
  show bt (if n + aK A = n + aK A then _ else _) i = _
  rw [if_pos rfl, b_or]
theorem jF {c : Nat} : c ∈ aF (aJoin n kd d A C D s) ↔ (c ∈ aF A ∧ c ≠ C ∧ c ≠ D) ∨ c = n + aK A := by
  show c ∈ rmv D (rmv C (aF A)) ++ [n + aK A] ↔ _
  rw [List.mem_append, rmv_mem, rmv_mem, List.mem_singleton]
  constructor
  · rintro (⟨⟨a, b⟩, e⟩ | e)
    · exact Or.inl ⟨a, b, e⟩
    · exact Or.inr e
  · rintro (⟨a, b, e⟩ | e)
    · exact Or.inl ⟨⟨a, b⟩, e⟩
    · exact Or.inr e
theorem jdp (i : Nat) : dpt n (aJoin n kd d A C D s) i = dpt n A i + (if (bc A C i || bc A D i) = true then 1 else 0) := by
  unfold dpt
  show pcp (fun k => bc (aJoin n kd d A C D s) (n + k) i) (aK A) + (if bc (aJoin n kd d A C D s) (n + aK A) i = true then 1 else 0) = _
  rw [jC_new]
  congr 1
  have : ∀ m, m ≤ aK A → pcp (fun k => bc (aJoin n kd d A C D s) (n + k) i) m = pcp (fun k => bc A (n + k) i) m := by
    intro m
    induction m with
    | zero => intro _; rfl
    | succ m ih =>
      intro hm
      show pcp _ m + (if bc (aJoin n kd d A C D s) (n + m) i = true then 1 else 0) = pcp _ m + (if bc A (n + m) i = true then 1 else 0)
      rw [ih (by omega), jC_old (by omega)]
  exact this _ (Nat.le_refl _)
theorem jdp_old (hI : I1 n A) (hC : C ∈ aF A) (hD : D ∈ aF A) {E i : Nat} (hE : E ∈ aF A) (h1 : E ≠ C) (h2 : E ≠ D) (hi : bc A E i = true) : dpt n (aJoin n kd d A C D s) i = dpt n A i := by
  rw [jdp, if_neg, Nat.add_zero]
  intro z
  rcases (Bool.or_eq_true _ _ ▸ z : _ ∨ _) with z | z
  · exact hI.2.2.2.2.2.1 E C hE hC h1 i ⟨hi, z⟩
  · exact hI.2.2.2.2.2.1 E D hE hD h2 i ⟨hi, z⟩
theorem mem_lt (hI : I1 n A) {c : Nat} (hc : c ∈ aF A) : c ≠ n + aK A := by
  have := hI.2.2.2.1 c hc
  omega
/-- linkages behind a join -/
theorem jT_old (hI : I1 n A) (hC : C ∈ aF A) (hD : D ∈ aF A) {c e : Nat} (hc : c ∈ aF A) (c1 : c ≠ C) (c2 : c ≠ D) (he : e ∈ aF A) (e1 : e ≠ C) (e2 : e ≠ D) : uC n kd d (aJoin n kd d A C D s) c e = uC n kd d A c e ∧ uT n kd d (aJoin n kd d A C D s) c e = uT n kd d A c e ∧ uB kd (aJoin n kd d A C D s) c e = uB kd A c e := by
  unfold uC uT uB
  rw [jC_old (mem_lt hI hc), jC_old (mem_lt hI he)]
  have hh : ∀ i, bc A c i = true ∨ bc A e i = true → dpt n (aJoin n kd d A C D s) i = dpt n A i := by
    rintro i (z | z)
    · exact jdp_old hI hC hD hc c1 c2 z
    · exact jdp_old hI hC hD he e1 e2 z
  exact ⟨VC_con hh, VT_con hh, rfl⟩
theorem jJN (hI : I1 n A) (h2 : I2 n A) (hC : C ∈ aF A) (hD : D ∈ aF A) (hne : C ≠ D) {E : Nat} (hE : E ∈ aF A) (e1 : E ≠ C) (e2 : E ≠ D) : JN d kd (dpt n A) (dpt n (aJoin n kd d A C D s)) (bc (aJoin n kd d A C D s) (n + aK A)) (bc A C) (bc A D) (bc A E) := by
  refine ⟨fun i => jC_new i, hI.2.2.2.2.2.1 C D hC hD hne, fun _ i j hi hj => ?_⟩
  rw [jC_new] at hi
  have z1 := nz_1 (hI.s20 hC) (hI.nem hC)
  have z2 := nz_1 (hI.s20 hD) (hI.nem hD)
  have dj := h2.2.2.2 E j hE hj
  have tot : nz (bc A C) + nz (bc A D) + nz (bc A E) ≤ 20 := by
    have o1 := nz_or (P := fun i => bc A C i || bc A D i) (fun i => rfl) (hI.2.2.2.2.2.1 C D hC hD hne)
    have o2 := nz_or (P := fun i => (bc A C i || bc A D i) || bc A E i) (C := fun i => bc A C i || bc A D i) (D := bc A E) (fun i => rfl) (fun i z => by
      rcases (Bool.or_eq_true _ _ ▸ z.1 : _ ∨ _) with y | y
      · exact hI.2.2.2.2.2.1 E C hE hC e1 i ⟨z.2, y⟩
      · exact hI.2.2.2.2.2.1 E D hE hD e2 i ⟨z.2, y⟩)
    have := nz_le (fun i => (bc A C i || bc A D i) || bc A E i)
    omega
  refine ⟨?_, ?_, jdp_old hI hC hD hE e1 e2 hj⟩
  · rcases (Bool.or_eq_true _ _ ▸ hi : _ ∨ _) with y | y
    · have := h2.2.2.2 C i hC y; omega
    · have := h2.2.2.2 D i hD y; omega
  · rw [jdp, if_pos hi]
theorem jC_join (hk : kd < 5) (hI : I1 n A) (h2 : I2 n A) (hC : C ∈ aF A) (hD : D ∈ aF A) (hne : C ≠ D) {E : Nat} (hE : E ∈ aF A) (e1 : E ≠ C) (e2 : E ≠ D) : uC n kd d (aJoin n kd d A C D s) (n + aK A) E = opk kd (uC n kd d A C E) (uC n kd d A D E) := by
  unfold uC
  rw [jC_old (c := E) (mem_lt hI hE)]
  exact VC_join hk (jJN hI h2 hC hD hne hE e1 e2) (hI.s20 hC) (hI.s20 hD) (hI.s20 hE) (hI.nem hC) (hI.nem hD) (hI.nem hE)
theorem jRed (hk : kd < 5) (hd : DD d) (hI : I1 n A) (h2 : I2 n A) (hp : PC n kd d A C D) {E : Nat} (hE : E ∈ aF A) (e1 : E ≠ C) (e2 : E ≠ D) {M : Int} {O : Nat} (mx : M * uB kd A C E ≤ uT n kd d A C E * O) (my : M * uB kd A D E ≤ uT n kd d A D E * O) : M * uB kd (aJoin n kd d A C D s) (n + aK A) E ≤ uT n kd d (aJoin n kd d A C D s) (n + aK A) E * O := by
  obtain ⟨hC, hD, hne, hp⟩ := hp
  have z := hp E hE e1 e2
  unfold uB uT
  rw [jC_old (c := E) (mem_lt hI hE)]
  exact red hk hd.2.1 hd.2.2 (jJN hI h2 hC hD hne hE e1 e2) (hI.s20 hC) (hI.s20 hD) (hI.s20 hE) (hI.nem hC) (hI.nem hD) (hI.nem hE) z.1 z.2 mx my
end
