/-! how linkages are carried on -/
section
variable {kd : Nat} {d : Nat → Nat → Nat} {dep dep2 : Nat → Nat} {P Q C D E : Nat → Bool}
abbrev s20 (P : Nat → Bool) : Prop := ∀ i, P i = true → i < 20
abbrev nem (P : Nat → Bool) : Prop := ∃ i, P i = true
abbrev dsj (P Q : Nat → Bool) : Prop := ∀ i, ¬ (P i = true ∧ Q i = true)
theorem VC_E (h : kd = 0 ∨ kd = 1) (hP : s20 P) (hQ : s20 Q) (h1 : nem P) (h2 : nem Q) : isE (decide (kd = 1)) d P Q (VC kd d dep P Q) := by
  unfold VC
  rw [if_neg (by omega)]
  rcases h with rfl | rfl
  · obtain ⟨m, e, hm⟩ := fa_E (d := d) (g := false) hP hQ h1 h2
    rw [opk_0, e]; exact hm
  · obtain ⟨m, e, hm⟩ := fa_E (d := d) (g := true) hP hQ h1 h2
    rw [opk_1, e]; exact hm
theorem VC_4 : VC 4 d dep P Q = SS (wd d dep) P Q := if_pos rfl
theorem VC_sym (hk : kd < 5) (hs : ∀ i j, d i j = d j i) (hP : s20 P) (hQ : s20 Q) (h1 : nem P) (h2 : nem Q) : VC kd d dep P Q = VC kd d dep Q P := by
  rcases (show (kd = 0 ∨ kd = 1) ∨ (kd = 2 ∨ kd = 3) ∨ kd = 4 by omega) with h | h | rfl
  · exact isE_u (VC_E h hP hQ h1 h2) (isE_sym hs (VC_E h hQ hP h2 h1))
  · rw [VC_s h, VC_s h, SS_sym hs]
  · rw [VC_4, VC_4]
    refine SS_sym (fun i j => ?_)
    unfold wd
    rw [hs i j, show 18 - dep i - dep j = 18 - dep j - dep i by omega]
theorem VT_sym (hk : kd < 5) (hs : ∀ i j, d i j = d j i) (hP : s20 P) (hQ : s20 Q) (h1 : nem P) (h2 : nem Q) : VT kd d dep P Q = VT kd d dep Q P := by
  unfold VT
  rw [VC_sym hk hs hP hQ h1 h2, SS_sym (P := P) (Q := Q) hs]
  split
  · generalize (nz P : Int) = a
    generalize (nz Q : Int) = b
    grind
  · rfl
theorem VB_sym : VB kd P Q = VB kd Q P := by
  unfold VB
  rw [Nat.mul_comm (nz P) (nz Q), Nat.add_comm (nz P) (nz Q)]
theorem VC_con (h : ∀ i, P i = true ∨ Q i = true → dep i = dep2 i) : VC kd d dep P Q = VC kd d dep2 P Q := by
  unfold VC
  split
  · refine SS_con (fun i j hi hj => ?_)
    unfold wd
    rw [h i (Or.inl hi), h j (Or.inr hj)]
  · rfl
theorem VT_con (h : ∀ i, P i = true ∨ Q i = true → dep i = dep2 i) : VT kd d dep P Q = VT kd d dep2 P Q := by
  unfold VT
  rw [VC_con h]
theorem nz_or (h : ∀ i, P i = (C i || D i)) (hd : dsj C D) : nz P = nz C + nz D := pcp_add h hd 20
/-- what a join needs to know -/
def JN (d : Nat → Nat → Nat) (kd : Nat) (dep dep2 : Nat → Nat) (P C D E : Nat → Bool) : Prop := (∀ i, P i = (C i || D i)) ∧ dsj C D ∧ (kd = 4 → ∀ i j, P i = true → E j = true → dep i + dep j ≤ 17 ∧ dep2 i = dep i + 1 ∧ dep2 j = dep j)
theorem VC_half (h : JN d 4 dep dep2 P C D E) : 2 * VC 4 d dep2 P E = VC 4 d dep C E + VC 4 d dep D E := by
  rw [VC_4, VC_4, VC_4, ← SS_or h.1 h.2.1, Nat.mul_comm, ← SS_mul]
  refine SS_con (fun i j hi hj => ?_)
  obtain ⟨h1, h2, h3⟩ := h.2.2 rfl i j hi hj
  unfold wd
  rw [h2, h3, Nat.mul_assoc, ← Nat.pow_succ]
  congr 2
  omega
theorem VC_join (hk : kd < 5) (h : JN d kd dep dep2 P C D E) (hC : s20 C) (hD : s20 D) (hE : s20 E) (n1 : nem C) (n2 : nem D) (n3 : nem E) : VC kd d dep2 P E = opk kd (VC kd d dep C E) (VC kd d dep D E) := by
  have hP : s20 P := fun i hi => by
    rw [h.1 i] at hi
    cases e : C i with
    | true => exact hC i e
    | false => rw [e] at hi; exact hD i (by simpa using hi)
  have nP : nem P := by obtain ⟨i, hi⟩ := n1; exact ⟨i, by rw [h.1 i, hi]; rfl⟩
  rcases (show (kd = 0 ∨ kd = 1) ∨ (kd = 2 ∨ kd = 3) ∨ kd = 4 by omega) with hk' | hk' | rfl
  · have e1 := VC_E (d := d) (dep := dep2) hk' hP hE nP n3
    have e2 := isE_or h.1 (VC_E (d := d) (dep := dep) hk' hC hE n1 n3) (VC_E (d := d) (dep := dep) hk' hD hE n2 n3)
    rw [isE_u e1 e2]
    rcases hk' with rfl | rfl
    · rw [opk_0]; rfl
    · rw [opk_1]; rfl
  · rw [VC_s hk', VC_s hk', VC_s hk', SS_or h.1 h.2.1, opk_s hk']
  · have := VC_half h
    show _ = (VC 4 d dep C E + VC 4 d dep D E) / 2
    omega
theorem VT_n3 (h : kd ≠ 3) : VT kd d dep P Q = (VC kd d dep P Q : Int) := if_neg h
/-- no linkage falls below both of those that it is carried on from -/
theorem red0 {M : Int} {O : Nat} (hk : kd < 5) (hs : ∀ i j, d i j = d j i) (hz : ∀ i, d i i = 0) (h : JN d kd dep dep2 P C D E) (hC : s20 C) (hD : s20 D) (hE : s20 E) (n1 : nem C) (n2 : nem D) (n3 : nem E)
    (zm : VT kd d dep C D * O ≤ M * VB kd C D) (mx : M * VB kd C E ≤ VT kd d dep C E * O) (my : M * VB kd D E ≤ VT kd d dep D E * O) : M * VB kd P E ≤ VT kd d dep2 P E * O := by
  have ex := VC_join hk h hC hD hE n1 n2 n3
  have p1 : 1 ≤ nz C := nz_pos (by obtain ⟨i, hi⟩ := n1; exact ⟨i, hC i hi, hi⟩)
  have p2 : 1 ≤ nz D := nz_pos (by obtain ⟨i, hi⟩ := n2; exact ⟨i, hD i hi, hi⟩)
  have ez := nz_or h.1 h.2.1
  rcases (show kd = 0 ∨ kd = 1 ∨ kd = 2 ∨ kd = 3 ∨ kd = 4 by omega) with rfl | rfl | rfl | rfl | rfl
  · rw [VT_n3 (by decide)] at mx my ⊢
    rw [ex]
    have b : ∀ X Y, VB 0 X Y = 1 := fun X Y => rfl
    rw [b] at mx my ⊢
    have : opk 0 (VC 0 d dep C E) (VC 0 d dep D E) = VC 0 d dep C E ∨ opk 0 (VC 0 d dep C E) (VC 0 d dep D E) = VC 0 d dep D E := by
      rw [opk_0]; unfold opg; simp; omega
    rcases this with e | e <;> rw [e] <;> assumption
  · rw [VT_n3 (by decide)] at mx my ⊢
    rw [ex]
    have b : ∀ X Y, VB 1 X Y = 1 := fun X Y => rfl
    rw [b] at mx my ⊢
    have : opk 1 (VC 1 d dep C E) (VC 1 d dep D E) = VC 1 d dep C E ∨ opk 1 (VC 1 d dep C E) (VC 1 d dep D E) = VC 1 d dep D E := by
      rw [opk_1]; unfold opg; simp; omega
    rcases this with e | e <;> rw [e] <;> assumption
  · rw [VT_n3 (by decide)] at mx my ⊢
    rw [ex, opk_s (Or.inl rfl)]
    have b : ∀ X Y, VB 2 X Y = nz X * nz Y := fun X Y => rfl
    rw [b] at mx my ⊢
    rw [ez]
    simp only [Int.natCast_mul, Int.natCast_add] at mx my ⊢
    generalize (VC 2 d dep C E : Int) = x at *
    generalize (VC 2 d dep D E : Int) = y at *
    generalize (nz C : Int) = c at *
    generalize (nz D : Int) = dd at *
    generalize (nz E : Int) = e at *
    generalize (O : Int) = o at *
    have e1 : M * ((c + dd) * e) = M * (c * e) + M * (dd * e) := by grind
    have e2 : (x + y) * o = x * o + y * o := by grind
    omega
  · have sy := SI_or hs hz h.1 h.2.1
    unfold VT VB at *
    simp only [if_pos, show ¬ (3 = 2) by decide, if_false, if_true] at *
    rw [SS_or h.1 h.2.1, sy, ez]
    simp only [Int.natCast_mul, Int.natCast_add] at *
    have q1 : (1 : Int) ≤ nz C := by omega
    have q2 : (1 : Int) ≤ nz D := by omega
    have q3 : (0 : Int) ≤ nz E := by omega
    have qo : (0 : Int) ≤ O := by omega
    generalize (SS d C E : Int) = sx at *
    generalize (SS d D E : Int) = sy2 at *
    generalize (SS d C D : Int) = sz at *
    generalize (SI d C : Int) = ic at *
    generalize (SI d D : Int) = id' at *
    generalize (SI d E : Int) = ie at *
    generalize (nz C : Int) = c at *
    generalize (nz D : Int) = dd at *
    generalize (nz E : Int) = e at *
    generalize (O : Int) = o at *
    have k0 : 0 < c * dd := Int.mul_pos (by omega) (by omega)
    refine Int.le_of_mul_le_mul_left ?_ k0
    have a1 : 0 ≤ dd * (c + dd) := Int.mul_nonneg (by omega) (by omega)
    have a2 : 0 ≤ c * (c + dd) := Int.mul_nonneg (by omega) (by omega)
    have a3 : 0 ≤ e * e := Int.mul_nonneg q3 q3
    have m1 := Int.mul_le_mul_of_nonneg_left mx a1
    have m2 := Int.mul_le_mul_of_nonneg_left my a2
    have m3 := Int.mul_le_mul_of_nonneg_left zm a3
    have e1 : c * dd * (M * ((c + dd) * e * (c + dd + e))) = dd * (c + dd) * (M * (c * e * (c + e))) + c * (c + dd) * (M * (dd * e * (dd + e))) - e * e * (M * (c * dd * (c + dd))) := by grind
    have e2 : c * dd * (2 * ((c + dd) * e * (sx + sy2) - e * e * (ic + id' + sz) - (c + dd) * (c + dd) * ie) * o) = dd * (c + dd) * (2 * (c * e * sx - e * e * ic - c * c * ie) * o) + c * (c + dd) * (2 * (dd * e * sy2 - e * e * id' - dd * dd * ie) * o) - e * e * (2 * (c * dd * sz - dd * dd * ic - c * c * id') * o) := by grind
    rw [e1, e2]
    generalize dd * (c + dd) * (M * (c * e * (c + e))) = u1 at *
    generalize c * (c + dd) * (M * (dd * e * (dd + e))) = u2 at *
    generalize e * e * (M * (c * dd * (c + dd))) = u3 at *
    generalize dd * (c + dd) * (2 * (c * e * sx - e * e * ic - c * c * ie) * o) = w1 at *
    generalize c * (c + dd) * (2 * (dd * e * sy2 - e * e * id' - dd * dd * ie) * o) = w2 at *
    generalize e * e * (2 * (c * dd * sz - dd * dd * ic - c * c * id') * o) = w3 at *
    omega
  · rw [VT_n3 (by decide)] at mx my ⊢
    have hf := VC_half h
    have b : ∀ X Y, VB 4 X Y = 262144 := fun X Y => rfl
    rw [b] at mx my ⊢
    have hf' : (2 : Int) * (VC 4 d dep2 P E : Int) = (VC 4 d dep C E : Int) + (VC 4 d dep D E : Int) := by omega
    generalize (VC 4 d dep2 P E : Int) = w at *
    generalize (VC 4 d dep C E : Int) = x at *
    generalize (VC 4 d dep D E : Int) = y at *
    generalize (O : Int) = o at *
    have e2 : 2 * (w * o) = x * o + y * o := by
      have : 2 * (w * o) = (2 * w) * o := by grind
      rw [this, hf']; grind
    omega
end
