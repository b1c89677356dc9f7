/-! chains of nearest neighbours, told once for both -/
section
variable {N n kd : Nat} {d : Nat → Nat → Nat} {A : Aj} {S : Nat → Nat} {l : Nat}
/-- the nearest of some clusters to x; bo tells the one below -/
def Nr (n kd : Nat) (d : Nat → Nat → Nat) (A : Aj) (x : Nat) (bo : Nat → Prop) (D : Nat → Prop) (e : Nat) (t : Bool) : Prop := D e ∧ (∀ y, D y → 0 ≤ cmv n kd d A x y x e) ∧ (∀ y, D y → cmv n kd d A x y x e = 0 → y ≠ e → bo e ∨ (¬ bo y ∧ e < y)) ∧ (t = true ↔ ∃ y, D y ∧ y ≠ e ∧ cmv n kd d A x y x e = 0)
theorem Nr.con {x : Nat} {bo D E : Nat → Prop} {e : Nat} {t : Bool} (h : Nr n kd d A x bo D e t) (hi : ∀ y, D y ↔ E y) : Nr n kd d A x bo E e t := by
  have : D = E := by funext y; exact propext (hi y)
  rw [← this]; exact h
theorem Nr.u {x : Nat} {bo D : Nat → Prop} {e f : Nat} {t u : Bool} (hb : ∀ a b, bo a → bo b → a = b) (h : Nr n kd d A x bo D e t) (h2 : Nr n kd d A x bo D f u) : e = f ∧ t = u := by
  have a1 := h.2.1 f h2.1
  have a2 := h2.2.1 e h.1
  have ng := cm_neg (n := n) (kd := kd) (d := d) (A := A) (c := x) (e := e) (x := x) (y := f)
  have hef : e = f := by
    apply Classical.byContradiction
    intro hne
    have b1 := h.2.2.1 f h2.1 (by omega) (fun z => hne z.symm)
    have b2 := h2.2.2.1 e h.1 (by omega) hne
    rcases b1 with b1 | b1
    · rcases b2 with b2 | b2
      · exact hne (hb e f b1 b2)
      · exact b2.1 b1
    · rcases b2 with b2 | b2
      · exact b1.1 b2
      · omega
  subst hef
  exact ⟨rfl, Bool.eq_iff_iff.mpr (h.2.2.2.trans h2.2.2.2.symm)⟩
theorem Nr.one {x y : Nat} {bo : Nat → Prop} : Nr n kd d A x bo (fun z => z = y) y false := by
  have z : cmv n kd d A x y x y = 0 := by unfold cmv; omega
  refine ⟨rfl, ?_, ?_, ?_⟩
  · rintro a rfl; omega
  · rintro a rfl _ h; exact absurd rfl h
  · constructor
    · intro h; cases h
    · rintro ⟨a, rfl, h, -⟩; exact absurd rfl h
theorem Nr.step {x e y : Nat} {bo D : Nat → Prop} {t : Bool} (hA : AI n kd d A) (hx : x ∈ aF A) (hD : ∀ z, D z → z ∈ aF A ∧ z < y) (hy : y ∈ aF A) (h : Nr n kd d A x bo D e t) : (cmv n kd d A x y x e < 0 → Nr n kd d A x bo (fun z => D z ∨ z = y) y false) ∧ (cmv n kd d A x y x e = 0 → bo y → Nr n kd d A x bo (fun z => D z ∨ z = y) y true) ∧ (cmv n kd d A x y x e = 0 → ¬ bo y → Nr n kd d A x bo (fun z => D z ∨ z = y) e true) ∧ (0 < cmv n kd d A x y x e → Nr n kd d A x bo (fun z => D z ∨ z = y) e t) := by
  have he := hD e h.1
  have yy : cmv n kd d A x y x y = 0 := by unfold cmv; omega
  have ngy := cm_neg (n := n) (kd := kd) (d := d) (A := A) (c := x) (e := e) (x := x) (y := y)
  have tr : ∀ z, D z → cmv n kd d A x z x y ≤ 0 → cmv n kd d A x e x y ≤ 0 := fun z hz w => by
    have o := h.2.1 z hz
    have ng2 := cm_neg (n := n) (kd := kd) (d := d) (A := A) (c := x) (e := e) (x := x) (y := z)
    exact cm_tr hA hx he.1 hx (hD z hz).1 hx hy (by omega) w
  refine ⟨fun z => ⟨Or.inr rfl, ?_, ?_, ?_⟩, fun z hb => ⟨Or.inr rfl, ?_, ?_, ?_⟩, fun z hb => ⟨Or.inl h.1, ?_, ?_, ?_⟩, fun z => ⟨Or.inl h.1, ?_, ?_, ?_⟩⟩
  · rintro a (ha | rfl)
    · rcases (show cmv n kd d A x a x y ≤ 0 ∨ 0 < cmv n kd d A x a x y by omega) with w | w
      · have := tr a ha w; omega
      · omega
    · omega
  · rintro a (ha | rfl) w hne
    · have := tr a ha (by omega); omega
    · exact absurd rfl hne
  · constructor
    · intro w; cases w
    · rintro ⟨a, ha | rfl, hne, w⟩
      · have := tr a ha (by omega); omega
      · exact absurd rfl hne
  · rintro a (ha | rfl)
    · rcases (show cmv n kd d A x a x y ≤ 0 ∨ 0 < cmv n kd d A x a x y by omega) with w | w
      · have o := h.2.1 a ha
        have ng2 := cm_neg (n := n) (kd := kd) (d := d) (A := A) (c := x) (e := a) (x := x) (y := y)
        have := cm_tr hA hx hy hx he.1 hx (hD a ha).1 (by omega) (by have := cm_neg (n := n) (kd := kd) (d := d) (A := A) (c := x) (e := e) (x := x) (y := a); omega)
        omega
      · omega
    · omega
  · rintro a (ha | rfl) w hne
    · exact Or.inl hb
    · exact absurd rfl hne
  · exact ⟨fun _ => ⟨e, Or.inl h.1, by omega, by omega⟩, fun _ => rfl⟩
  · rintro a (ha | rfl)
    · exact h.2.1 a ha
    · omega
  · rintro a (ha | rfl) w hne
    · exact h.2.2.1 a ha w hne
    · exact Or.inr ⟨hb, he.2⟩
  · exact ⟨fun _ => ⟨y, Or.inr rfl, by omega, z⟩, fun _ => rfl⟩
  · rintro a (ha | rfl)
    · exact h.2.1 a ha
    · omega
  · rintro a (ha | rfl) w hne
    · exact h.2.2.1 a ha w hne
    · omega
  · rw [h.2.2.2]
    constructor
    · rintro ⟨a, ha, w⟩; exact ⟨a, Or.inl ha, w⟩
    · rintro ⟨a, ha | rfl, hne, w⟩
      · exact ⟨a, ha, hne, w⟩
      · omega
/-- all others -/
abbrev oth (A : Aj) (x y : Nat) : Prop := y ∈ aF A ∧ y ≠ x
theorem Nr_ex {x : Nat} {bo : Nat → Prop} (hA : AI n kd d A) (hx : x ∈ aF A) (hL : 2 ≤ (aF A).length) : ∃ p : Nat × Bool, Nr n kd d A x bo (oth A x) p.1 p.2 := by
  have hI := hA.1
  have key : ∀ k, (∀ y, oth A x y → ¬ y < k) ∨ ∃ p : Nat × Bool, Nr n kd d A x bo (fun y => oth A x y ∧ y < k) p.1 p.2 := by
    intro k
    induction k with
    | zero => exact Or.inl (fun y _ => Nat.not_lt_zero _)
    | succ k ih =>
      by_cases h : oth A x k
      · right
        have dd : ∀ a, ((oth A x a ∧ a < k) ∨ a = k) ↔ (oth A x a ∧ a < k + 1) := by
          intro a
          constructor
          · rintro (⟨h1, h2⟩ | rfl)
            · exact ⟨h1, by omega⟩
            · exact ⟨h, by omega⟩
          · rintro ⟨h1, h2⟩
            by_cases e : a = k
            · exact Or.inr e
            · exact Or.inl ⟨h1, by omega⟩
        rcases ih with ih | ⟨⟨e, t⟩, hB⟩
        · refine ⟨(k, false), Nr.one.con (fun a => ?_)⟩
          constructor
          · rintro rfl; exact ⟨h, by omega⟩
          · rintro ⟨h1, h2⟩
            have := ih a h1
            omega
        · have st := hB.step hA hx (fun a h => ⟨h.1.1, h.2⟩) h.1
          rcases (show cmv n kd d A x k x e < 0 ∨ cmv n kd d A x k x e = 0 ∨ 0 < cmv n kd d A x k x e by omega) with z | z | z
          · exact ⟨(k, false), (st.1 z).con dd⟩
          · by_cases hb : bo k
            · exact ⟨(k, true), (st.2.1 z hb).con dd⟩
            · exact ⟨(e, true), (st.2.2.1 z hb).con dd⟩
          · exact ⟨(e, t), (st.2.2.2 z).con dd⟩
      · have eq : ∀ y, oth A x y → (y < k ↔ y < k + 1) := fun y hy => by
          have : y ≠ k := fun e => h (e ▸ hy)
          omega
        rcases ih with ih | ⟨p, hB⟩
        · exact Or.inl (fun y hy z => ih y hy ((eq y hy).mpr z))
        · refine Or.inr ⟨p, hB.con (fun y => ?_)⟩
          constructor
          · rintro ⟨h1, h2⟩; exact ⟨h1, (eq y h1).mp h2⟩
          · rintro ⟨h1, h2⟩; exact ⟨h1, (eq y h1).mpr h2⟩
  rcases key (n + aK A) with h | ⟨p, hB⟩
  · have h0 := gD_mem (L := aF A) (i := 0) (by omega)
    have h1 := gD_mem (L := aF A) (i := 1) (by omega)
    have lt := gD_lt hI.2.2.1 (show 0 < 1 by omega) (by omega)
    by_cases e : (aF A).getD 0 0 = x
    · exact absurd (hI.2.2.2.1 _ h1) (h _ ⟨h1, by omega⟩)
    · exact absurd (hI.2.2.2.1 _ h0) (h _ ⟨h0, e⟩)
  · exact ⟨p, hB.con (fun y => ⟨fun h => h.1, fun h => ⟨h, hI.2.2.2.1 y h.1⟩⟩)⟩
/-- a chain -/
def CI (n kd : Nat) (d : Nat → Nat → Nat) (A : Aj) (S : Nat → Nat) (l : Nat) : Prop := (∀ j, j < l → S j ∈ aF A) ∧ (∀ i j, i < j → j < l → S i ≠ S j) ∧ (∀ j, j + 1 < l → ∀ E, E ∈ aF A → E ≠ S j → cmv n kd d A (S j) (S (j + 1)) (S j) E ≤ 0) ∧ ∀ j, j + 2 < l → cmv n kd d A (S (j + 1)) (S (j + 2)) (S j) (S (j + 1)) < 0
theorem pig : ∀ m (S : Nat → Nat) (F : List Nat), List.Pairwise (· < ·) F → (∀ j, j < m → S j ∈ F) → (∀ i j, i < j → j < m → S i ≠ S j) → m ≤ F.length
  | 0, _, _, _, _, _ => Nat.zero_le _
  | m + 1, S, F, hp, h1, h2 => by
    have l := rmv_len hp (h1 m (by omega))
    have := pig m S (rmv (S m) F) (rmv_pw hp) (fun j hj => rmv_mem.mpr ⟨h1 j (by omega), h2 j m hj (by omega)⟩) (fun i j hij hj => h2 i j hij (by omega))
    omega
theorem CI.len (hI : I1 n A) (h : CI n kd d A S l) : l ≤ (aF A).length := pig l S (aF A) hI.2.2.1 h.1 h.2.1
/-- the heights along a chain fall -/
theorem CI.fall (hA : AI n kd d A) (h : CI n kd d A S l) {j : Nat} : ∀ k, j + k + 1 < l → cmv n kd d A (S (j + k)) (S (j + k + 1)) (S j) (S (j + 1)) ≤ 0
  | 0, _ => by
    show cmv n kd d A (S j) (S (j + 1)) (S j) (S (j + 1)) ≤ 0
    unfold cmv; omega
  | k + 1, hl => by
    have ih := CI.fall hA h (j := j) k (by omega)
    have s := h.2.2.2 (j + k) (by omega)
    exact cm_tr hA (h.1 _ (by omega)) (h.1 _ (by omega)) (h.1 _ (by omega)) (h.1 _ (by omega)) (h.1 _ (by omega)) (h.1 _ (by omega)) (by
      have e1 : j + (k + 1) = j + k + 1 := by omega
      rw [e1]; exact Int.le_of_lt s) ih
theorem cm_sym (hk : kd < 5) (hd : DD d) (hI : I1 n A) {a b c e : Nat} (ha : a ∈ aF A) (hb : b ∈ aF A) : cmv n kd d A a b c e = cmv n kd d A b a c e := by
  unfold cmv; rw [uT_sym hk hd hI ha hb, uB_sym (c := a)]
theorem cm_sym2 (hk : kd < 5) (hd : DD d) (hI : I1 n A) {a b c e : Nat} (hc : c ∈ aF A) (he : e ∈ aF A) : cmv n kd d A a b c e = cmv n kd d A a b e c := by
  unfold cmv; rw [uT_sym hk hd hI hc he, uB_sym (c := c)]
abbrev bel (S : Nat → Nat) (l y : Nat) : Prop := 2 ≤ l ∧ y = S (l - 2)
/-- the nearest one is put on top -/
theorem CI.push (hk : kd < 5) (hd : DD d) (hA : AI n kd d A) (h : CI n kd d A S l) (hl : 1 ≤ l) {e : Nat} {t : Bool} (hN : Nr n kd d A (S (l - 1)) (bel S l) (oth A (S (l - 1))) e t) (hb : ¬ bel S l e) : CI n kd d A (fun j => if j = l then e else S j) (l + 1) := by
  have hx := h.1 (l - 1) (by omega)
  have he := hN.1
  have strict : 2 ≤ l → cmv n kd d A (S (l - 1)) e (S (l - 2)) (S (l - 1)) < 0 := by
    intro h2
    have hbm := h.1 (l - 2) (by omega)
    have hne : S (l - 2) ≠ S (l - 1) := h.2.1 (l - 2) (l - 1) (by omega) (by omega)
    have m := hN.2.1 (S (l - 2)) ⟨hbm, hne⟩
    have z : ¬ cmv n kd d A (S (l - 1)) (S (l - 2)) (S (l - 1)) e = 0 := fun z => by
      have hbe : bel S l (S (l - 2)) := ⟨h2, rfl⟩
      rcases hN.2.2.1 (S (l - 2)) ⟨hbm, hne⟩ z (fun w => hb ⟨h2, w.symm⟩) with w | w
      · exact hb w
      · exact w.1 hbe
    rw [cm_sym2 hk hd hA.1 hbm hx, cm_neg]
    omega
  have fresh : ∀ j, j < l → S j ≠ e := by
    intro j hj hje
    by_cases e1 : j = l - 1
    · exact he.2 (by rw [← hje, e1])
    by_cases e2 : j = l - 2
    · exact hb ⟨by omega, by rw [← hje, e2]⟩
    have sj := h.1 j hj
    have nj := h.2.2.1 j (by omega) (S (l - 1)) hx (fun z => h.2.1 j (l - 1) (by omega) (by omega) z.symm)
    have fl := CI.fall hA h (j := j) (l - 2 - j) (by omega)
    rw [show j + (l - 2 - j) = l - 2 by omega, show l - 2 + 1 = l - 1 by omega] at fl
    have st := strict (by omega)
    rw [← hje, cm_sym hk hd hA.1 hx sj] at st
    have := cm_tr hA (h.1 (l - 2) (by omega)) hx sj (h.1 (j + 1) (by omega)) sj hx fl nj
    have ng := cm_neg (n := n) (kd := kd) (d := d) (A := A) (c := S j) (e := S (l - 1)) (x := S (l - 2)) (y := S (l - 1))
    omega
  have at' : ∀ j, j < l → (if j = l then e else S j) = S j := fun j hj => if_neg (by omega)
  refine ⟨fun j hj => ?_, fun i j hij hj => ?_, fun j hj E hE hne => ?_, fun j hj => ?_⟩
  · by_cases e1 : j = l
    · simp only [e1, if_true]; exact he.1
    · simp only [e1, if_false]; exact h.1 j (by omega)
  · simp only [at' i (by omega)]
    by_cases e1 : j = l
    · simp only [e1, if_true]; exact fresh i (by omega)
    · simp only [e1, if_false]; exact h.2.1 i j hij (by omega)
  · simp only [at' j (by omega)] at hne ⊢
    by_cases e1 : j + 1 = l
    · simp only [e1, if_true]
      have ej : j = l - 1 := by omega
      rw [ej] at hne ⊢
      have m := hN.2.1 E ⟨hE, hne⟩
      rw [cm_neg]; omega
    · simp only [e1, if_false]; exact h.2.2.1 j (by omega) E hE hne
  · simp only [at' j (by omega), at' (j + 1) (by omega)]
    by_cases e1 : j + 2 = l
    · simp only [e1, if_true]
      have st := strict (by omega)
      rw [show l - 1 = j + 1 by omega, show l - 2 = j by omega] at st
      exact st
    · simp only [e1, if_false]; exact h.2.2.2 j (by omega)
theorem CI.pc (hk : kd < 5) (hd : DD d) (hA : AI n kd d A) (h : CI n kd d A S l) (hl : 2 ≤ l) {t : Bool} (hN : Nr n kd d A (S (l - 1)) (bel S l) (oth A (S (l - 1))) (S (l - 2)) t) : PC n kd d A (S (l - 2)) (S (l - 1)) := by
  have hx := h.1 (l - 1) (by omega)
  have hb := h.1 (l - 2) (by omega)
  refine ⟨hb, hx, h.2.1 _ _ (by omega) (by omega), fun E hE e1 e2 => ⟨?_, ?_⟩⟩
  · have := h.2.2.1 (l - 2) (by omega) E hE e1
    rw [show l - 2 + 1 = l - 1 by omega] at this
    unfold cmv at this; omega
  · have := hN.2.1 E ⟨hE, e2⟩
    rw [cm_sym2 hk hd hA.1 hx hb] at this
    unfold cmv at this; omega
/-- the two on top are joined -/
theorem CI.join (hk : kd < 5) (hd : DD d) (hA : AI n kd d A) (h : CI n kd d A S l) (hl : 2 ≤ l) (hp : PC n kd d A (S (l - 2)) (S (l - 1))) {s : Nat} : CI n kd d (aJoin n kd d A (S (l - 2)) (S (l - 1)) s) S (l - 2) := by
  have hI := hA.1
  have hx := h.1 (l - 1) (by omega)
  have hb := h.1 (l - 2) (by omega)
  have dis : ∀ j, j < l - 2 → S j ∈ aF A ∧ S j ≠ S (l - 2) ∧ S j ≠ S (l - 1) := fun j hj => ⟨h.1 j (by omega), h.2.1 j (l - 2) hj (by omega), h.2.1 j (l - 1) (by omega) (by omega)⟩
  have I1' : I1 n (aJoin n kd d A (S (l - 2)) (S (l - 1)) s) := hI.join hp.1 hp.2.1 hp.2.2.1
  have mem : ∀ j, j < l - 2 → S j ∈ aF (aJoin n kd d A (S (l - 2)) (S (l - 1)) s) := fun j hj => jF.mpr (Or.inl (dis j hj))
  have mn : (n + aK A) ∈ aF (aJoin n kd d A (S (l - 2)) (S (l - 1)) s) := jF.mpr (Or.inr rfl)
  have old : ∀ a b, a < l - 2 → b < l - 2 → uT n kd d (aJoin n kd d A (S (l - 2)) (S (l - 1)) s) (S a) (S b) = uT n kd d A (S a) (S b) ∧ uB kd (aJoin n kd d A (S (l - 2)) (S (l - 1)) s) (S a) (S b) = uB kd A (S a) (S b) := fun a b ha hb' => (jT_old hI hb hx (dis a ha).1 (dis a ha).2.1 (dis a ha).2.2 (dis b hb').1 (dis b hb').2.1 (dis b hb').2.2).2
  refine ⟨mem, fun i j hij hj => h.2.1 i j hij (by omega), fun j hj E hE hne => ?_, fun j hj => ?_⟩
  · have dj := dis j (by omega)
    have o1 := old j (j + 1) (by omega) (by omega)
    rcases jF.mp hE with z | z
    · have o2 := jT_old (s := s) (kd := kd) (d := d) hI hb hx dj.1 dj.2.1 dj.2.2 z.1 z.2.1 z.2.2
      unfold cmv
      rw [o1.1, o1.2, o2.2.1, o2.2.2]
      have := h.2.2.1 j (by omega) E z.1 hne
      unfold cmv at this; exact this
    · subst z
      have r1 := h.2.2.1 j (by omega) (S (l - 2)) hb (fun z => dj.2.1 z.symm)
      have r2 := h.2.2.1 j (by omega) (S (l - 1)) hx (fun z => dj.2.2 z.symm)
      rw [cm_sym2 hk hd hI dj.1 hb] at r1
      rw [cm_sym2 hk hd hI dj.1 hx] at r2
      unfold cmv at r1 r2
      have rr := jRed (s := s) hk hd hI hA.2.1 hp dj.1 dj.2.1 dj.2.2 (M := uT n kd d A (S j) (S (j + 1))) (O := uB kd A (S j) (S (j + 1))) (by omega) (by omega)
      rw [cm_sym2 hk hd I1' (mem j (by omega)) mn]
      unfold cmv
      rw [o1.1, o1.2]
      omega
  · have o1 := old (j + 1) (j + 2) (by omega) (by omega)
    have o2 := old j (j + 1) (by omega) (by omega)
    unfold cmv
    rw [o1.1, o1.2, o2.1, o2.2]
    have := h.2.2.2 j (by omega)
    unfold cmv at this; exact this
end
