/-! a greedy step of both -/
theorem gD_lt {G : List Nat} (hp : List.Pairwise (· < ·) G) {a b : Nat} (hab : a < b) (hb : b < G.length) : G.getD a 0 < G.getD b 0 := by
  rw [List.getD_eq_getElem?_getD, List.getD_eq_getElem?_getD, List.getElem?_eq_getElem (show a < G.length by omega), List.getElem?_eq_getElem hb]
  rw [List.pairwise_iff_getElem] at hp
  exact hp a b (by omega) hb hab
section
variable {N n kd : Nat} {d : Nat → Nat → Nat} {px py : Nat → Int32} {A : Aj} {R : Nat → Nat}
theorem CX.tie {σ : St} {s : Nat} (h : CX σ n kd d A R) : CX (sI σ 11 2 (nI s)) n kd d (aTie A s) R := by
  obtain ⟨⟨x0, x1, x2, x22⟩, ⟨y1, y2⟩, xR, x14, xl, xm⟩ := h
  refine ⟨⟨?_, ?_, sI_at, ?_⟩, ⟨?_, fun a ha => ?_⟩, xR, fun c hc => ?_, xl, fun k hk => ?_⟩
  · rw [sI_of (by omega)]; exact x0
  · rw [sI_of (by omega)]; exact x1
  · rw [sI_of (by omega)]; exact x22
  · rw [sI_of (by omega)]; exact y1
  · rw [sI_of (by omega)]; exact y2 a ha
  · rw [sI_of (by omega), sI_of (by omega)]; exact x14 c hc
  · rw [sI_of (by omega), sI_of (by omega), sI_of (by omega)]; exact xm k hk
/-- the pairs met by the class -/
def Dx (A : Aj) (a b x y : Nat) : Prop := ∃ p q, p < q ∧ q < (aF A).length ∧ (p < a ∨ (p = a ∧ q < b)) ∧ x = (aF A).getD p 0 ∧ y = (aF A).getD q 0
theorem Dx_fp (hI : I1 n A) {a b x y : Nat} (h : Dx A a b x y) : fp A x y := by
  obtain ⟨p, q, h1, h2, -, rfl, rfl⟩ := h
  exact ⟨gD_mem (by omega), gD_mem h2, gD_lt hI.2.2.1 h1 h2⟩
theorem Dx_all (hI : I1 n A) {a x y : Nat} (ha : (aF A).length ≤ a) : Dx A a 0 x y ↔ fp A x y := by
  constructor
  · exact Dx_fp hI
  · rintro ⟨hx, hy, hlt⟩
    obtain ⟨p, hp, rfl⟩ := gD_ex hx
    obtain ⟨q, hq, rfl⟩ := gD_ex hy
    have : p < q := by
      rcases Nat.lt_or_ge p q with z | z
      · exact z
      · rcases Nat.lt_or_ge q p with y | y
        · have := gD_lt hI.2.2.1 y hp; omega
        · have : p = q := by omega
          subst this; omega
    exact ⟨p, q, this, hq, Or.inl (by omega), rfl, rfl⟩
theorem Dx_s {a b x y : Nat} (hab : a < b) (hb : b < (aF A).length) : (Dx A a b x y ∨ (x = (aF A).getD a 0 ∧ y = (aF A).getD b 0)) ↔ Dx A a (b + 1) x y := by
  constructor
  · rintro (⟨p, q, h1, h2, h3, h4⟩ | ⟨rfl, rfl⟩)
    · exact ⟨p, q, h1, h2, by omega, h4⟩
    · exact ⟨a, b, hab, hb, by omega, rfl, rfl⟩
  · rintro ⟨p, q, h1, h2, h3, h4⟩
    by_cases e : p = a ∧ q = b
    · obtain ⟨rfl, rfl⟩ := e; exact Or.inr h4
    · exact Or.inl ⟨p, q, h1, h2, by omega, h4⟩
theorem Dx_n {a x y : Nat} : Dx A a (aF A).length x y ↔ Dx A (a + 1) 0 x y := by
  constructor
  · rintro ⟨p, q, h1, h2, h3, h4⟩; exact ⟨p, q, h1, h2, by omega, h4⟩
  · rintro ⟨p, q, h1, h2, h3, h4⟩; exact ⟨p, q, h1, h2, by omega, h4⟩
theorem Dx_lt (hI : I1 n A) {a b x y : Nat} (hab : a < b) (hb : b < (aF A).length) (h : Dx A a b x y) : cd x y < cd ((aF A).getD a 0) ((aF A).getD b 0) := by
  obtain ⟨p, q, h1, h2, h3, rfl, rfl⟩ := h
  have l1 := hI.2.2.2.1 _ (gD_mem h2)
  have l2 := hI.1
  have l3 := hI.2.1
  unfold cd
  rcases h3 with z | ⟨rfl, z⟩
  · have := gD_lt hI.2.2.1 z (show a < (aF A).length by omega); omega
  · have := gD_lt hI.2.2.1 z hb; omega
theorem X_glp {σ : St} (hk : kd < 5) (hd : DD d) (hA : AI n kd d A) (hX : CX σ n kd d A R) (hL : 2 ≤ (aF A).length) (hN : 3000 ≤ N) : wp (fX1_joinLeastPair N σ) (fun _ σ' => ∃ c e t R', Bst n kd d A (fp A) c e t ∧ CX σ' n kd d (gStep n kd d A c e t) R' ∧ fr sJn σ σ') := by
  have hI := hA.1
  have hl20 : (aF A).length ≤ 20 := by have := hI.1; have := hI.2.1; omega
  have e6 : σ.1 11 6 = nI (aF A).length := by rw [hX.2.1.1, List.length_map]
  have e13 : ∀ a, a < (aF A).length → σ.1 13 a = nI (R ((aF A).getD a 0)) := fun a ha => by rw [hX.2.1.2 a (by rw [List.length_map]; exact ha), gD_map ha]
  have fin : ∀ c e t (σ1 : St), Bst n kd d A (fp A) c e t → CX σ1 n kd d (aTie A (aS A + bN t)) R → fr sJn σ σ1 → wp (fX1_joinLeastPair_126 N (nI (R c)) (nI (R e)) σ1) (fun _ σ' => ∃ c e t R', Bst n kd d A (fp A) c e t ∧ CX σ' n kd d (gStep n kd d A c e t) R' ∧ fr sJn σ σ') := by
    intro c e t σ1 hB hX1 hf
    unfold fX1_joinLeastPair_126
    have h1 := hB.1
    refine wp_bd (X_join (A := aTie A (aS A + bN t)) hk hd hA hX1 h1.1 h1.2.1 (by have := h1.2.2; omega) hN) (fun _ σ' hh => wp_some ⟨c, e, t, _, hB, hh.1, fr_tr hf (fr_mo hh.2 (fun c k h => ?_))⟩)
    unfold sJj at h; unfold sJn; omega
  unfold fX1_joinLeastPair
  refine wp_gd (by decide) (wp_nx (wp_gd (by decide) (wp_nx ?_)))
  have z0 : σ.1 13 (0 : Int32).toNatClampNeg = nI (R ((aF A).getD 0 0)) := e13 0 (by omega)
  have z1 : σ.1 13 (1 : Int32).toNatClampNeg = nI (R ((aF A).getD 1 0)) := e13 1 (by omega)
  rw [z0, z1]
  have key : ∀ m a (ρ : Nat × Nat × Nat), a ≤ (aF A).length → (aF A).length - a < m → (ρ.2.2 ≤ 20 * a ∧ ((a = 0 ∧ ρ.1 = (aF A).getD 0 0 ∧ ρ.2.1 = (aF A).getD 1 0 ∧ ρ.2.2 = 0) ∨ (0 < a ∧ 1 ≤ ρ.2.2 ∧ Bst n kd d A (Dx A a 0) ρ.1 ρ.2.1 (decide (1 < ρ.2.2))))) → wp (fX1_joinLeastPair_19 N m (nI (R ρ.1)) (nI (R ρ.2.1)) (nI ρ.2.2) (nI a) σ) (fun _ σ' => ∃ c e t R', Bst n kd d A (fp A) c e t ∧ CX σ' n kd d (gStep n kd d A c e t) R' ∧ fr sJn σ σ') := by
    refine loop_i (fun m a (ρ : Nat × Nat × Nat) => wp (fX1_joinLeastPair_19 N m (nI (R ρ.1)) (nI (R ρ.2.1)) (nI ρ.2.2) (nI a) σ) _) (fun a ρ => ρ.2.2 ≤ 20 * a ∧ ((a = 0 ∧ ρ.1 = (aF A).getD 0 0 ∧ ρ.2.1 = (aF A).getD 1 0 ∧ ρ.2.2 = 0) ∨ (0 < a ∧ 1 ≤ ρ.2.2 ∧ Bst n kd d A (Dx A a 0) ρ.1 ρ.2.1 (decide (1 < ρ.2.2))))) (aF A).length ?_ ?_
    · rintro m ⟨c, e, al⟩ ⟨hal, h⟩
      rw [fX1_joinLeastPair_19, e6]
      rcases h with h | ⟨h1, h2, h3⟩
      · omega
      · simp only at hal h2 h3 ⊢
        have hB := h3.con (fun x y => Dx_all hI (Nat.le_refl _))
        refine wp_t (nI_le (Nat.le_refl _) (by omega)) (wp_i (fun z => ?_) (fun z => wp_nx ?_))
        · have : al ≤ 1 := (nI_leI (b := 1) (by omega) (by omega)).mp z
          rw [decide_eq_false (by omega)] at hB
          exact fin c e false σ hB hX fr_rf
        · have : 1 < al := by
            rcases Nat.lt_or_ge 1 al with y | y
            · exact y
            · exact absurd (nI_le (b := 1) y (by omega)) z
          rw [decide_eq_true this] at hB
          have es : σ.1 11 2 + (1 : Int32) = nI (aS A + 1) := by rw [hX.1.2.2.1]; exact nI_1 _
          rw [es]
          exact fin c e true _ hB hX.tie (fr_I fr_rf (Or.inl (by omega)))
    · rintro m a ⟨c, e, al⟩ ha ⟨hal, h⟩ ih
      rw [fX1_joinLeastPair_19, e6]
      refine wp_f (nI_ge ha (by omega)) (wp_nx ?_)
      have a1 : nI a + (1 : Int32) = nI (a + 1) := nI_1 a
      rw [a1]
      have inner : ∀ m2 b (ρ : Nat × Nat × Nat), b ≤ (aF A).length → (aF A).length - b < m2 → (a < b ∧ ρ.2.2 ≤ 20 * a + b ∧ ((a = 0 ∧ b = 1 ∧ ρ.1 = (aF A).getD 0 0 ∧ ρ.2.1 = (aF A).getD 1 0 ∧ ρ.2.2 = 0) ∨ (1 ≤ ρ.2.2 ∧ Bst n kd d A (Dx A a b) ρ.1 ρ.2.1 (decide (1 < ρ.2.2))))) → wp (fX1_joinLeastPair_34 N (fX1_joinLeastPair_19 N m) m2 (nI (R ρ.1)) (nI (R ρ.2.1)) (nI ρ.2.2) (nI a) (nI b) σ) (fun _ σ' => ∃ c e t R', Bst n kd d A (fp A) c e t ∧ CX σ' n kd d (gStep n kd d A c e t) R' ∧ fr sJn σ σ') := by
        refine loop_i (fun m2 b (ρ : Nat × Nat × Nat) => wp (fX1_joinLeastPair_34 N (fX1_joinLeastPair_19 N m) m2 (nI (R ρ.1)) (nI (R ρ.2.1)) (nI ρ.2.2) (nI a) (nI b) σ) _) (fun b ρ => a < b ∧ ρ.2.2 ≤ 20 * a + b ∧ ((a = 0 ∧ b = 1 ∧ ρ.1 = (aF A).getD 0 0 ∧ ρ.2.1 = (aF A).getD 1 0 ∧ ρ.2.2 = 0) ∨ (1 ≤ ρ.2.2 ∧ Bst n kd d A (Dx A a b) ρ.1 ρ.2.1 (decide (1 < ρ.2.2))))) (aF A).length ?_ ?_
        · rintro m2 ⟨c, e, al⟩ ⟨hab, hal, h⟩
          rw [fX1_joinLeastPair_34, e6]
          refine wp_t (nI_le (Nat.le_refl _) (by omega)) (wp_nx ?_)
          rw [a1]
          rcases h with h | ⟨h2, h3⟩
          · omega
          · exact ih (c, e, al) ⟨by simp only at hal ⊢; omega, Or.inr ⟨by omega, h2, h3.con (fun x y => Dx_n)⟩⟩
        · rintro m2 b ⟨c, e, al⟩ hb ⟨hab, hal, h⟩ ih2
          simp only at hal h
          have mx : fp A ((aF A).getD a 0) ((aF A).getD b 0) := ⟨gD_mem ha, gD_mem hb, gD_lt hI.2.2.1 hab hb⟩
          have mc : fp A c e := by
            rcases h with ⟨h1, h2, rfl, rfl, -⟩ | ⟨-, h3⟩
            · exact ⟨gD_mem (by omega), gD_mem (by omega), gD_lt hI.2.2.1 (by omega) (by omega)⟩
            · exact Dx_fp hI h3.1
          have b1 : nI b + (1 : Int32) = nI (b + 1) := nI_1 b
          rw [fX1_joinLeastPair_34, e6]
          unfold fX1_joinLeastPair_99
          refine wp_f (nI_ge hb (by omega)) (wp_gd (ibn (by omega) (by decide)) (wp_gd (ibn (by omega) (by decide)) ?_))
          rw [cl a (by omega), cl b (by omega), e13 a ha, e13 b hb, X_cmp hk hd hA hX mx.1 mx.2.1 (by have := mx.2.2; omega) mc.1 mc.2.1 (by have := mc.2.2; omega), bd_s, b1]
          rcases h with ⟨rfl, rfl, hc, he, rfl⟩ | ⟨h2, h3⟩
          · have z : cmv n kd d A ((aF A).getD 0 0) ((aF A).getD 1 0) c e = 0 := by rw [hc, he]; unfold cmv; omega
            refine wp_t (sg_ge.mpr (by omega)) (wp_t (sg_eq.mpr z) (wp_nx (wp_nx ?_)))
            refine ih2 (c, e, 1) ⟨by omega, by simp only; omega, Or.inr ⟨Nat.le_refl 1, ?_⟩⟩
            show Bst n kd d A (Dx A 0 2) c e (decide (1 < 1))
            rw [decide_eq_false (by omega), hc, he]
            refine (Bst.one mx.1).con (fun x y => ?_)
            rw [← Dx_s (by omega) hb]
            constructor
            · exact Or.inr
            · rintro (⟨p, q, h1, h2, h3, -⟩ | h)
              · omega
              · exact h
          · have st := h3.step hA (fun x y hh => Dx_fp hI hh) mx (fun x y hh => Dx_lt hI hab hb hh)
            refine wp_i (fun c1 => wp_i (fun c2 => wp_nx (wp_nx ?_)) (fun c2 => wp_nx ?_)) (fun c1 => wp_gd (ibn (by omega) (by decide)) (wp_nx (wp_gd (ibn (by omega) (by decide)) (wp_nx (wp_nx ?_)))))
            · have B := st.2.1 (sg_eq.mp c2)
              have al1 : nI al + (1 : Int32) = nI (al + 1) := nI_1 al
              rw [al1]
              refine ih2 (c, e, al + 1) ⟨by omega, by simp only; omega, Or.inr ⟨by simp only; omega, ?_⟩⟩
              show Bst n kd d A (Dx A a (b + 1)) c e (decide (1 < al + 1))
              rw [decide_eq_true (by omega)]
              exact B.con (fun x y => Dx_s hab hb)
            · have g1 := sg_ge.mp c1
              have g2 : ¬ cmv n kd d A ((aF A).getD a 0) ((aF A).getD b 0) c e = 0 := fun z => c2 (sg_eq.mpr z)
              have B := st.2.2 (by omega)
              refine ih2 (c, e, al) ⟨by omega, by simp only; omega, Or.inr ⟨h2, ?_⟩⟩
              exact B.con (fun x y => Dx_s hab hb)
            · have g1 : ¬ 0 ≤ cmv n kd d A ((aF A).getD a 0) ((aF A).getD b 0) c e := fun z => c1 (sg_ge.mpr z)
              have B := st.1 (by omega)
              rw [e13 a ha, e13 b hb]
              refine ih2 ((aF A).getD a 0, (aF A).getD b 0, 1) ⟨by omega, by simp only; omega, Or.inr ⟨Nat.le_refl 1, ?_⟩⟩
              show Bst n kd d A (Dx A a (b + 1)) _ _ (decide (1 < 1))
              rw [decide_eq_false (by omega)]
              exact B.con (fun x y => Dx_s hab hb)
      refine inner N (a + 1) (c, e, al) (by omega) (by omega) ⟨by omega, by simp only at hal ⊢; omega, ?_⟩
      simp only at hal h ⊢
      rcases h with ⟨h1, h2, h3, h4⟩ | ⟨h1, h2, h3⟩
      · exact Or.inl ⟨h1, by omega, h2, h3, h4⟩
      · refine Or.inr ⟨h2, h3.con (fun x y => ?_)⟩
        constructor
        · rintro ⟨p, q, g1, g2, g3, g4⟩; exact ⟨p, q, g1, g2, by omega, g4⟩
        · rintro ⟨p, q, g1, g2, g3, g4⟩; exact ⟨p, q, g1, g2, by omega, g4⟩
  exact key N 0 (_, _, 0) (by omega) (by omega) ⟨by simp, Or.inl ⟨rfl, rfl, rfl, rfl⟩⟩
end
