/-! chains to their end; the class follows them -/
abbrev Cs : Type := Aj × (Nat → Nat) × Nat
section
variable {N n kd : Nat} {d : Nat → Nat → Nat} {px py : Nat → Int32} {R : Nat → Nat}
def cIni (s : Cs) : Cs := if s.2.2 = 0 then (s.1, (fun j => if j = 0 then (aF s.1).getD 0 0 else s.2.1 j), 1) else s
def NrS (n kd : Nat) (d : Nat → Nat → Nat) (s : Cs) (e : Nat) (t : Bool) : Prop := Nr n kd d s.1 (s.2.1 (s.2.2 - 1)) (bel s.2.1 s.2.2) (oth s.1 (s.2.1 (s.2.2 - 1))) e t
noncomputable def cPk (n kd : Nat) (d : Nat → Nat → Nat) (s : Cs) : Nat × Bool := @dite _ (∃ p : Nat × Bool, NrS n kd d s p.1 p.2) (Classical.propDecidable _) (fun h => Classical.choose h) (fun _ => (0, false))
def cStp (n kd : Nat) (d : Nat → Nat → Nat) (s : Cs) (e : Nat) (t : Bool) : Cs := if bel s.2.1 s.2.2 e then (aJoin n kd d (aTie s.1 (aS s.1 + bN t)) (s.2.1 (s.2.2 - 2)) (s.2.1 (s.2.2 - 1)) (aS s.1 + bN t), s.2.1, s.2.2 - 2) else (aTie s.1 (aS s.1 + bN t), (fun j => if j = s.2.2 then e else s.2.1 j), s.2.2 + 1)
noncomputable def cNx (n kd : Nat) (d : Nat → Nat → Nat) (s : Cs) : Cs := cStp n kd d (cIni s) (cPk n kd d (cIni s)).1 (cPk n kd d (cIni s)).2
noncomputable def cIt (n kd : Nat) (d : Nat → Nat → Nat) : Nat → Cs
  | 0 => (aBeg n, (fun _ => 0), 0)
  | k + 1 => cNx n kd d (cIt n kd d k)
def CG (n kd : Nat) (d : Nat → Nat → Nat) (s : Cs) : Prop := AI n kd d s.1 ∧ CI n kd d s.1 s.2.1 s.2.2
theorem CG_ini {s : Cs} (h : CG n kd d s) (hL : 1 ≤ (aF s.1).length) : CG n kd d (cIni s) ∧ 1 ≤ (cIni s).2.2 ∧ (cIni s).1 = s.1 ∧ s.2.2 ≤ (cIni s).2.2 := by
  unfold cIni
  by_cases e : s.2.2 = 0
  · rw [if_pos e]
    refine ⟨⟨h.1, fun j hj => ?_, fun i j hij hj => ?_, fun j hj => ?_, fun j hj => ?_⟩, Nat.le_refl 1, rfl, by omega⟩
    · have hj' : j < 1 := hj
      have : j = 0 := by omega
      subst this
      exact gD_mem (L := aF s.1) (i := 0) (by omega)
    · have hj' : j < 1 := hj
      omega
    · have hj' : j + 1 < 1 := hj
      omega
    · have hj' : j + 2 < 1 := hj
      omega
  · rw [if_neg e]
    exact ⟨h, by omega, rfl, Nat.le_refl _⟩
theorem cPk_ok {s : Cs} (h : CG n kd d s) (hl : 1 ≤ s.2.2) (hL : 2 ≤ (aF s.1).length) : NrS n kd d s (cPk n kd d s).1 (cPk n kd d s).2 := by
  have hx : ∃ p : Nat × Bool, NrS n kd d s p.1 p.2 := Nr_ex (bo := bel s.2.1 s.2.2) h.1 (h.2.1 (s.2.2 - 1) (by omega)) hL
  unfold cPk
  rw [dif_pos hx]
  exact Classical.choose_spec hx
theorem NrS.u {s : Cs} {e f : Nat} {t u : Bool} (h : NrS n kd d s e t) (h2 : NrS n kd d s f u) : e = f ∧ t = u := Nr.u (fun a b ha hb => ha.2.trans hb.2.symm) h h2
theorem CG_stp {s : Cs} (hk : kd < 5) (hd : DD d) (h : CG n kd d s) (hl : 1 ≤ s.2.2) {e : Nat} {t : Bool} (hN : NrS n kd d s e t) : CG n kd d (cStp n kd d s e t) ∧ 3 * (aF (cStp n kd d s e t).1).length + s.2.2 + 1 = 3 * (aF s.1).length + (cStp n kd d s e t).2.2 := by
  unfold cStp
  by_cases hb : bel s.2.1 s.2.2 e
  · rw [if_pos hb]
    obtain ⟨h2, rfl⟩ := hb
    have hp : PC n kd d (aTie s.1 (aS s.1 + bN t)) (s.2.1 (s.2.2 - 2)) (s.2.1 (s.2.2 - 1)) := CI.pc hk hd h.1 h.2 h2 hN
    refine ⟨⟨AI.join hk hd (A := aTie s.1 (aS s.1 + bN t)) h.1 hp, CI.join (A := aTie s.1 (aS s.1 + bN t)) hk hd h.1 h.2 h2 hp⟩, ?_⟩
    have l1 := rmv_len h.1.1.2.2.1 hp.1
    have l2 := rmv_len (rmv_pw (c := s.2.1 (s.2.2 - 2)) h.1.1.2.2.1) (rmv_mem.mpr ⟨hp.2.1, fun e => hp.2.2.1 e.symm⟩)
    show 3 * (rmv (s.2.1 (s.2.2 - 1)) (rmv (s.2.1 (s.2.2 - 2)) (aF s.1)) ++ [n + aK s.1]).length + s.2.2 + 1 = 3 * (aF s.1).length + (s.2.2 - 2)
    rw [List.length_append]
    show 3 * (_ + 1) + _ + 1 = _
    omega
  · rw [if_neg hb]
    refine ⟨⟨h.1, CI.push (A := aTie s.1 (aS s.1 + bN t)) hk hd h.1 h.2 hl hN hb⟩, ?_⟩
    show 3 * (aF s.1).length + s.2.2 + 1 = 3 * (aF s.1).length + (s.2.2 + 1)
    omega
theorem cNx_ok {s : Cs} (hk : kd < 5) (hd : DD d) (h : CG n kd d s) (hL : 2 ≤ (aF s.1).length) : CG n kd d (cNx n kd d s) ∧ 3 * (aF (cNx n kd d s).1).length + s.2.2 + 1 ≤ 3 * (aF s.1).length + (cNx n kd d s).2.2 := by
  obtain ⟨h1, h2, h3, h4⟩ := CG_ini h (by omega)
  have hL' : 2 ≤ (aF (cIni s).1).length := by rw [h3]; exact hL
  have r := CG_stp hk hd h1 h2 (cPk_ok h1 h2 hL')
  refine ⟨r.1, ?_⟩
  have r2 := r.2
  rw [h3] at r2
  show 3 * (aF (cStp n kd d (cIni s) (cPk n kd d (cIni s)).1 (cPk n kd d (cIni s)).2).1).length + s.2.2 + 1 ≤ 3 * (aF s.1).length + (cStp n kd d (cIni s) (cPk n kd d (cIni s)).1 (cPk n kd d (cIni s)).2).2.2
  omega
theorem cIt_ok (hk : kd < 5) (hd : DD d) (hn : n ≤ 20) : ∀ k, (∀ j, j < k → 2 ≤ (aF (cIt n kd d j).1).length) → CG n kd d (cIt n kd d k) ∧ 3 * (aF (cIt n kd d k).1).length + k ≤ 3 * n + (cIt n kd d k).2.2
  | 0, _ => by
    have a := AI_beg (kd := kd) hk hd hn
    refine ⟨⟨a, fun j hj => absurd hj (Nat.not_lt_zero j), fun i j _ hj => absurd hj (Nat.not_lt_zero j), fun j hj => absurd hj (Nat.not_lt_zero _), fun j hj => absurd hj (Nat.not_lt_zero _)⟩, ?_⟩
    have := a.1.1
    show 3 * (aF (aBeg n)).length + 0 ≤ 3 * n + 0
    have e : aK (aBeg n) = 0 := rfl
    omega
  | k + 1, h => by
    have ih := cIt_ok hk hd hn k (fun j hj => h j (by omega))
    have r := cNx_ok hk hd ih.1 (h k (by omega))
    refine ⟨r.1, ?_⟩
    have r2 := r.2
    show 3 * (aF (cNx n kd d (cIt n kd d k)).1).length + (k + 1) ≤ 3 * n + (cNx n kd d (cIt n kd d k)).2.2
    omega
theorem cK_ex (hk : kd < 5) (hd : DD d) (hn : n ≤ 20) : ∃ K, K ≤ 61 ∧ (aF (cIt n kd d K).1).length ≤ 1 ∧ ∀ j, j < K → 2 ≤ (aF (cIt n kd d j).1).length := by
  have ex : ∃ k, (aF (cIt n kd d k).1).length ≤ 1 := by
    apply Classical.byContradiction
    intro c
    have al : ∀ j, 2 ≤ (aF (cIt n kd d j).1).length := fun j => by
      rcases Nat.lt_or_ge (aF (cIt n kd d j).1).length 2 with z | z
      · exact absurd ⟨j, by omega⟩ c
      · exact z
    have r := cIt_ok hk hd hn 61 (fun j _ => al j)
    have := CI.len r.1.1.1 r.1.2
    have := al 61
    omega
  obtain ⟨K, h1, h2⟩ := pk_least (fun k => (aF (cIt n kd d k).1).length ≤ 1) ex
  have al : ∀ j, j < K → 2 ≤ (aF (cIt n kd d j).1).length := fun j hj => by have := h2 j hj; omega
  refine ⟨K, ?_, h1, al⟩
  have r := cIt_ok hk hd hn K al
  have := CI.len r.1.1.1 r.1.2
  omega
/-- both states, with the stack -/
def CXS (σ : St) (n kd : Nat) (d : Nat → Nat → Nat) (s : Cs) (R : Nat → Nat) : Prop := CX σ n kd d s.1 R ∧ σ.1 11 14 = nI s.2.2 ∧ ∀ j, j < s.2.2 → σ.1 20 j = nI (R (s.2.1 j))
/-- the rows met -/
def Dn (A : Aj) (x a y : Nat) : Prop := ∃ p, p < a ∧ p < (aF A).length ∧ y = (aF A).getD p 0 ∧ y ≠ x
theorem X_near {σ : St} {A : Aj} {x l : Nat} {S : Nat → Nat} {y0 : Int32} (hk : kd < 5) (hd : DD d) (hA : AI n kd d A) (hX : CX σ n kd d A R) (hx : x ∈ aF A) (hL : 2 ≤ (aF A).length) (hb : (l < 2 ∧ y0 = -1) ∨ (2 ≤ l ∧ S (l - 2) ∈ aF A ∧ y0 = nI (R (S (l - 2))))) (hN : 3000 ≤ N) : wp (fX1_nearestTo N (nI (R x)) y0 σ) (fun r σ' => ∃ e t, Nr n kd d A x (bel S l) (oth A x) e t ∧ r = nI (R e) ∧ CX σ' n kd d (aTie A (aS A + bN t)) R ∧ fr (fun c k => c = 11 ∧ k = 2) σ σ') := by
  have hI := hA.1
  have hl20 : (aF A).length ≤ 20 := by have := hI.1; have := hI.2.1; omega
  have e6 : σ.1 11 6 = nI (aF A).length := by rw [hX.2.1.1, List.length_map]
  have e13 : ∀ a, a < (aF A).length → σ.1 13 a = nI (R ((aF A).getD a 0)) := fun a ha => by rw [hX.2.1.2 a (by rw [List.length_map]; exact ha), gD_map ha]
  have xR := hX.2.2.1.1
  have xRi := hX.2.2.1.2
  have Req : ∀ a b, a ∈ aF A → b ∈ aF A → (nI (R a) = nI (R b) ↔ a = b) := fun a b ha hb => by
    rw [nI_eq (by have := xR a ha; omega) (by have := xR b hb; omega)]
    exact ⟨xRi a b ha hb, fun h => by rw [h]⟩
  have beq : ∀ y, y ∈ aF A → (nI (R y) = y0 ↔ bel S l y) := by
    intro y hy
    rcases hb with ⟨h1, rfl⟩ | ⟨h1, h2, rfl⟩
    · exact ⟨fun z => absurd z (nI_m1 (by have := xR y hy; omega)), fun z => by have := z.1; omega⟩
    · rw [Req y _ hy h2]; exact ⟨fun z => ⟨h1, z⟩, fun z => z.2⟩
  unfold fX1_nearestTo
  have key : ∀ m a (ρ : Int32 × Nat), a ≤ (aF A).length → (aF A).length - a < m → (ρ.2 ≤ a ∧ ((ρ.1 = -1 ∧ ρ.2 = 0 ∧ ∀ y, ¬ Dn A x a y) ∨ (1 ≤ ρ.2 ∧ ∃ e, ρ.1 = nI (R e) ∧ Nr n kd d A x (bel S l) (Dn A x a) e (decide (1 < ρ.2))))) → wp (fX1_nearestTo_8 N m (nI (R x)) y0 ρ.1 (nI ρ.2) (nI a) σ) (fun r σ' => ∃ e t, Nr n kd d A x (bel S l) (oth A x) e t ∧ r = nI (R e) ∧ CX σ' n kd d (aTie A (aS A + bN t)) R ∧ fr (fun c k => c = 11 ∧ k = 2) σ σ') := by
    refine loop_i (fun m a (ρ : Int32 × Nat) => wp (fX1_nearestTo_8 N m (nI (R x)) y0 ρ.1 (nI ρ.2) (nI a) σ) _) (fun a ρ => ρ.2 ≤ a ∧ ((ρ.1 = -1 ∧ ρ.2 = 0 ∧ ∀ y, ¬ Dn A x a y) ∨ (1 ≤ ρ.2 ∧ ∃ e, ρ.1 = nI (R e) ∧ Nr n kd d A x (bel S l) (Dn A x a) e (decide (1 < ρ.2))))) (aF A).length ?_ ?_
    · rintro m ⟨x3, al⟩ ⟨hal, h⟩
      simp only at hal h ⊢
      rw [fX1_nearestTo_8, e6]
      have alld : ∀ y, Dn A x (aF A).length y ↔ oth A x y := fun y => by
        constructor
        · rintro ⟨p, -, h2, rfl, h4⟩; exact ⟨gD_mem h2, h4⟩
        · rintro ⟨h1, h2⟩
          obtain ⟨p, hp, rfl⟩ := gD_ex h1
          exact ⟨p, hp, hp, rfl, h2⟩
      rcases h with ⟨-, -, hno⟩ | ⟨h1, e, rfl, h3⟩
      · exfalso
        have h0 := gD_mem (L := aF A) (i := 0) (by omega)
        have h1 := gD_mem (L := aF A) (i := 1) (by omega)
        have lt := gD_lt hI.2.2.1 (show 0 < 1 by omega) (by omega)
        by_cases e : (aF A).getD 0 0 = x
        · exact hno _ ((alld _).mpr ⟨h1, by omega⟩)
        · exact hno _ ((alld _).mpr ⟨h0, e⟩)
      · have hB := h3.con alld
        refine wp_t (nI_le (Nat.le_refl _) (by omega)) (wp_i (fun z => wp_some ?_) (fun z => wp_nx (wp_some ?_)))
        · have : al ≤ 1 := (nI_leI (b := 1) (by omega) (by omega)).mp z
          rw [decide_eq_false (by omega)] at hB
          exact ⟨e, false, hB, rfl, hX, fr_rf⟩
        · have : 1 < al := by
            rcases Nat.lt_or_ge 1 al with y | y
            · exact y
            · exact absurd (nI_le (b := 1) y (by omega)) z
          rw [decide_eq_true this] at hB
          have es : σ.1 11 2 + (1 : Int32) = nI (aS A + 1) := by rw [hX.1.2.2.1]; exact nI_1 _
          rw [es]
          exact ⟨e, true, hB, rfl, hX.tie, fr_I fr_rf ⟨rfl, rfl⟩⟩
    · rintro m a ⟨x3, al⟩ ha ⟨hal, h⟩ ih
      simp only at hal h ⊢
      have hy := gD_mem ha
      have a1 : nI a + (1 : Int32) = nI (a + 1) := nI_1 a
      rw [fX1_nearestTo_8, e6]
      unfold fX1_nearestTo_50 fX1_nearestTo_68 fX1_nearestTo_71 fX1_nearestTo_94 fX1_nearestTo_96
      refine wp_f (nI_ge ha (by omega)) (wp_gd (ibn (by omega) (by decide)) (wp_nx ?_))
      rw [cl a (by omega), e13 a ha, a1]
      simp only [nx_r]
      have al1 : nI al + (1 : Int32) = nI (al + 1) := nI_1 al
      rw [al1]
      by_cases ex : (aF A).getD a 0 = x
      · refine wp_t ((Req _ _ hy hx).mpr ex) ?_
        have sk : ∀ y, Dn A x a y ↔ Dn A x (a + 1) y := fun y => by
          constructor
          · rintro ⟨p, h1, h2⟩; exact ⟨p, by omega, h2⟩
          · rintro ⟨p, h1, h2, h3, h4⟩
            refine ⟨p, ?_, h2, h3, h4⟩
            rcases Nat.lt_or_ge p a with z | z
            · exact z
            · have : p = a := by omega
              subst this; exact absurd (h3.trans ex) h4
        refine ih (x3, al) ⟨by simp only; omega, ?_⟩
        rcases h with ⟨h1, h2, h3⟩ | ⟨h1, e, h2, h3⟩
        · exact Or.inl ⟨h1, h2, fun y z => h3 y ((sk y).mpr z)⟩
        · exact Or.inr ⟨h1, e, h2, h3.con sk⟩
      · refine wp_f (fun z => ex ((Req _ _ hy hx).mp z)) ?_
        have dd : ∀ y, (Dn A x a y ∨ y = (aF A).getD a 0) ↔ Dn A x (a + 1) y := fun y => by
          constructor
          · rintro (⟨p, h1, h2⟩ | rfl)
            · exact ⟨p, by omega, h2⟩
            · exact ⟨a, by omega, ha, rfl, ex⟩
          · rintro ⟨p, h1, h2, h3, h4⟩
            by_cases e : p = a
            · subst e; exact Or.inr h3
            · exact Or.inl ⟨p, by omega, h2, h3, h4⟩
        have m1 : (-1 : Int32) < 0 := by decide
        rcases h with ⟨rfl, rfl, hno⟩ | ⟨h1, e, rfl, h3⟩
        · refine wp_t rfl (wp_t m1 (wp_f (by decide) ?_))
          refine ih (nI (R ((aF A).getD a 0)), 1) ⟨by simp only; omega, Or.inr ⟨Nat.le_refl 1, _, rfl, ?_⟩⟩
          show Nr n kd d A x (bel S l) (Dn A x (a + 1)) _ (decide (1 < 1))
          rw [decide_eq_false (by omega)]
          refine Nr.one.con (fun y => ?_)
          rw [← dd]
          exact ⟨Or.inr, fun h => h.elim (fun z => absurd z (hno y)) id⟩
        · have he : e ∈ aF A ∧ e ≠ x := by
            obtain ⟨p, -, h2, rfl, h4⟩ := h3.1
            exact ⟨gD_mem h2, h4⟩
          have st := h3.step hA hx (y := (aF A).getD a 0) (fun z hz => by
            obtain ⟨p, h1, h2, rfl, h4⟩ := hz
            exact ⟨gD_mem h2, gD_lt hI.2.2.1 h1 ha⟩) hy
          refine wp_f (nI_m1 (by have := xR e he.1; omega)) ?_
          rw [X_cmp hk hd hA hX hx hy (fun z => ex z.symm) hx he.1 (fun z => he.2 z.symm), bd_s]
          refine wp_i (fun c1 => ?_) (fun c1 => wp_i (fun c2 => wp_i (fun c3 => ?_) (fun c3 => ?_)) (fun c2 => ?_))
          · have z := sg_lt.mp c1
            refine wp_f (fun w => by have := sg_ge.mp w; omega) ?_
            refine ih (nI (R ((aF A).getD a 0)), 1) ⟨by simp only; omega, Or.inr ⟨Nat.le_refl 1, _, rfl, ?_⟩⟩
            show Nr n kd d A x (bel S l) (Dn A x (a + 1)) _ (decide (1 < 1))
            rw [decide_eq_false (by omega)]
            exact (st.1 z).con dd
          · have z := sg_eq.mp c2
            refine wp_t (sg_ge.mpr (by omega)) (wp_t c2 ?_)
            refine ih (nI (R ((aF A).getD a 0)), al + 1) ⟨by simp only; omega, Or.inr ⟨by simp only; omega, _, rfl, ?_⟩⟩
            show Nr n kd d A x (bel S l) (Dn A x (a + 1)) _ (decide (1 < al + 1))
            rw [decide_eq_true (by omega)]
            exact (st.2.1 z ((beq _ hy).mp c3)).con dd
          · have z := sg_eq.mp c2
            refine wp_t (sg_ge.mpr (by omega)) (wp_t c2 ?_)
            refine ih (nI (R e), al + 1) ⟨by simp only; omega, Or.inr ⟨by simp only; omega, _, rfl, ?_⟩⟩
            show Nr n kd d A x (bel S l) (Dn A x (a + 1)) _ (decide (1 < al + 1))
            rw [decide_eq_true (by omega)]
            exact (st.2.2.1 z (fun w => c3 ((beq _ hy).mpr w))).con dd
          · have z1 : ¬ cmv n kd d A x ((aF A).getD a 0) x e < 0 := fun w => c1 (sg_lt.mpr w)
            have z2 : ¬ cmv n kd d A x ((aF A).getD a 0) x e = 0 := fun w => c2 (sg_eq.mpr w)
            refine wp_t (sg_ge.mpr (by omega)) (wp_f c2 ?_)
            exact ih (nI (R e), al) ⟨by simp only; omega, Or.inr ⟨h1, _, rfl, (st.2.2.2 (by omega)).con dd⟩⟩
  exact key N 0 (-1, 0) (by omega) (by omega) ⟨Nat.le_refl 0, Or.inl ⟨rfl, rfl, fun y h => by obtain ⟨p, h1, -⟩ := h; omega⟩⟩
end
