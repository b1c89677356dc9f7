/-! greedily, to the end -/
section
variable {N n kd : Nat} {d : Nat → Nat → Nat} {px py : Nat → Int32} {A : Aj} {R : Nat → Nat}
theorem Bst_ex (hA : AI n kd d A) (hL : 2 ≤ (aF A).length) : ∃ p : Nat × Nat × Bool, Bst n kd d A (fp A) p.1 p.2.1 p.2.2 := by
  have hI := hA.1
  have ln := hI.1
  have hn := hI.2.1
  have key : ∀ k, (∀ x y, fp A x y → ¬ cd x y < k) ∨ ∃ p : Nat × Nat × Bool, Bst n kd d A (fun x y => fp A x y ∧ cd x y < k) p.1 p.2.1 p.2.2 := by
    intro k
    induction k with
    | zero => exact Or.inl (fun x y _ => Nat.not_lt_zero _)
    | succ k ih =>
      by_cases h : ∃ x y, fp A x y ∧ cd x y = k
      · obtain ⟨x, y, hx, rfl⟩ := h
        have uq : ∀ a b, fp A a b → cd a b = cd x y → a = x ∧ b = y := by
          intro a b hab e
          have l1 := hI.2.2.2.1 b hab.2.1
          have l2 := hI.2.2.2.1 y hx.2.1
          unfold cd at e; omega
        right
        have dd : ∀ (D : Nat → Nat → Prop), (∀ a b, D a b ↔ fp A a b ∧ cd a b < cd x y) → ∀ a b, (D a b ∨ (a = x ∧ b = y)) ↔ (fp A a b ∧ cd a b < cd x y + 1) := by
          intro D hD a b
          rw [hD]
          constructor
          · rintro (⟨h1, h2⟩ | ⟨rfl, rfl⟩)
            · exact ⟨h1, by omega⟩
            · exact ⟨hx, by omega⟩
          · rintro ⟨h1, h2⟩
            by_cases e : cd a b = cd x y
            · exact Or.inr (uq a b h1 e)
            · exact Or.inl ⟨h1, by omega⟩
        rcases ih with ih | ⟨⟨c, e, t⟩, hB⟩
        · refine ⟨(x, y, false), (Bst.one hx.1).con (fun a b => ?_)⟩
          constructor
          · rintro ⟨rfl, rfl⟩; exact ⟨hx, by omega⟩
          · rintro ⟨h1, h2⟩
            have := ih a b h1
            exact uq a b h1 (by omega)
        · have st := hB.step hA (fun a b h => h.1) hx (fun a b h => h.2)
          rcases (show cmv n kd d A x y c e < 0 ∨ cmv n kd d A x y c e = 0 ∨ 0 < cmv n kd d A x y c e by omega) with z | z | z
          · exact ⟨(x, y, false), (st.1 z).con (dd _ (fun a b => Iff.rfl))⟩
          · exact ⟨(c, e, true), (st.2.1 z).con (dd _ (fun a b => Iff.rfl))⟩
          · exact ⟨(c, e, t), (st.2.2 z).con (dd _ (fun a b => Iff.rfl))⟩
      · have eq : ∀ x y, fp A x y → (cd x y < k ↔ cd x y < k + 1) := fun x y hx => by
          have : cd x y ≠ k := fun e => h ⟨x, y, hx, e⟩
          omega
        rcases ih with ih | ⟨p, hB⟩
        · exact Or.inl (fun x y hx z => ih x y hx ((eq x y hx).mpr z))
        · refine Or.inr ⟨p, hB.con (fun x y => ?_)⟩
          constructor
          · rintro ⟨h1, h2⟩; exact ⟨h1, (eq x y h1).mp h2⟩
          · rintro ⟨h1, h2⟩; exact ⟨h1, (eq x y h1).mpr h2⟩
  have lt : ∀ x y, fp A x y → cd x y < 4096 := fun x y h => by
    have l1 := hI.2.2.2.1 x h.1
    have l2 := hI.2.2.2.1 y h.2.1
    unfold cd; omega
  rcases key 4096 with h | ⟨p, hB⟩
  · have hx : fp A ((aF A).getD 0 0) ((aF A).getD 1 0) := ⟨gD_mem (by omega), gD_mem (by omega), gD_lt hI.2.2.1 (by omega) (by omega)⟩
    exact absurd (lt _ _ hx) (h _ _ hx)
  · exact ⟨p, hB.con (fun x y => ⟨fun h => h.1, fun h => ⟨h, lt x y h⟩⟩)⟩
noncomputable def gPk (n kd : Nat) (d : Nat → Nat → Nat) (A : Aj) : Nat × Nat × Bool := @dite _ (∃ p : Nat × Nat × Bool, Bst n kd d A (fp A) p.1 p.2.1 p.2.2) (Classical.propDecidable _) (fun h => Classical.choose h) (fun _ => (0, 0, false))
noncomputable def gNx (n kd : Nat) (d : Nat → Nat → Nat) (A : Aj) : Aj := gStep n kd d A (gPk n kd d A).1 (gPk n kd d A).2.1 (gPk n kd d A).2.2
noncomputable def gIt (n kd : Nat) (d : Nat → Nat → Nat) : Nat → Aj
  | 0 => aBeg n
  | k + 1 => gNx n kd d (gIt n kd d k)
theorem gPk_ok (hA : AI n kd d A) (hL : 2 ≤ (aF A).length) : Bst n kd d A (fp A) (gPk n kd d A).1 (gPk n kd d A).2.1 (gPk n kd d A).2.2 := by
  have h := Bst_ex hA hL
  unfold gPk
  rw [dif_pos h]
  exact Classical.choose_spec h
theorem gNx_eq (hA : AI n kd d A) (hL : 2 ≤ (aF A).length) {c e : Nat} {t : Bool} (h : Bst n kd d A (fp A) c e t) : gStep n kd d A c e t = gNx n kd d A := by
  obtain ⟨e1, e2, e3⟩ := Bst.u hA.1.2.1 (fun x y h => h) hA.1 h (gPk_ok hA hL)
  unfold gNx
  rw [e1, e2, e3]
/-- heights rise -/
def GS (n kd : Nat) (d : Nat → Nat → Nat) (A : Aj) : Prop := (∀ k c e, k < aK A → c ∈ aF A → e ∈ aF A → c ≠ e → aT A k * uB kd A c e ≤ uT n kd d A c e * aO A k) ∧ ∀ a b, a ≤ b → b < aK A → aT A a * aO A b ≤ aT A b * aO A a
theorem GS_step (hk : kd < 5) (hd : DD d) (hA : AI n kd d A) (hG : GS n kd d A) {c e : Nat} {t : Bool} (h : Bst n kd d A (fp A) c e t) : GS n kd d (gStep n kd d A c e t) := by
  have hp := h.pc hk hd hA
  generalize hs : aS A + bN t = s
  have hA' : AI n kd d (aTie A s) := hA
  have hp' : PC n kd d (aTie A s) c e := hp
  have hG' : GS n kd d (aTie A s) := hG
  have gs : gStep n kd d A c e t = aJoin n kd d (aTie A s) c e s := by unfold gStep; rw [hs]
  rw [gs]
  have fce := h.1
  clear hG hp gs hs
  have hall : ∀ x y, x ∈ aF A → y ∈ aF A → x ≠ y → uT n kd d A c e * uB kd A x y ≤ uT n kd d A x y * uB kd A c e := by
    intro a b ha hb hab
    rcases Nat.lt_or_ge a b with z | z
    · have := (h.2.1 a b ⟨ha, hb, z⟩).1
      unfold cmv at this; omega
    · have := (h.2.1 b a ⟨hb, ha, by omega⟩).1
      unfold cmv at this
      rw [uT_sym hk hd hA.1 ha hb, uB_sym (c := a)]; omega
  have hall' : ∀ x y, x ∈ aF (aTie A s) → y ∈ aF (aTie A s) → x ≠ y → uT n kd d (aTie A s) c e * uB kd (aTie A s) x y ≤ uT n kd d (aTie A s) x y * uB kd (aTie A s) c e := hall
  generalize aTie A s = B at *
  obtain ⟨hC, hD, hne, hpc⟩ := hp'
  have hp' : PC n kd d B c e := ⟨hC, hD, hne, hpc⟩
  have ub := hA'.1.ub (kd := kd) hC hD
  have I1' : I1 n (aJoin n kd d B c e s) := hA'.1.join hC hD hne
  have new : ∀ k E, k < aK B + 1 → E ∈ aF B → E ≠ c → E ≠ e → aT (aJoin n kd d B c e s) k * uB kd (aJoin n kd d B c e s) (n + aK B) E ≤ uT n kd d (aJoin n kd d B c e s) (n + aK B) E * aO (aJoin n kd d B c e s) k := by
    intro k E hk' hE e1 e2
    by_cases ek : k = aK B
    · subst ek
      rw [jA_new.2.2.1, jA_new.2.2.2]
      have z := hpc E hE e1 e2
      exact jRed hk hd hA'.1 hA'.2.1 hp' hE e1 e2 ((fl_red ub.1).1.mp z.1) ((fl_red ub.1).1.mp z.2)
    · rw [(jA_old ek).2.2.1, (jA_old ek).2.2.2]
      exact jRed hk hd hA'.1 hA'.2.1 hp' hE e1 e2 (hG'.1 k c E (by omega) hC hE (fun z => e1 z.symm)) (hG'.1 k e E (by omega) hD hE (fun z => e2 z.symm))
  refine ⟨?_, ?_⟩
  · intro k x y hk' hx hy hxy
    have hk'' : k < aK B + 1 := hk'
    rcases jF.mp hx with z | z
    · rcases jF.mp hy with w | w
      · have u := jT_old (s := s) (kd := kd) (d := d) hA'.1 hC hD z.1 z.2.1 z.2.2 w.1 w.2.1 w.2.2
        rw [u.2.1, u.2.2]
        by_cases ek : k = aK B
        · subst ek
          rw [jA_new.2.2.1, jA_new.2.2.2]
          exact (fl_red ub.1).1.mp (hall' x y z.1 w.1 hxy)
        · rw [(jA_old ek).2.2.1, (jA_old ek).2.2.2]
          exact hG'.1 k x y (by omega) z.1 w.1 hxy
      · subst w
        rw [uT_sym hk hd I1' hx hy, uB_sym (c := x)]
        exact new k x hk'' z.1 z.2.1 z.2.2
    · subst z
      rcases jF.mp hy with w | w
      · exact new k y hk'' w.1 w.2.1 w.2.2
      · exact absurd w.symm hxy
  · intro a b hab hb
    have hb' : b < aK B + 1 := hb
    by_cases eb : b = aK B
    · subst eb
      rw [jA_new.2.2.1, jA_new.2.2.2]
      by_cases ea : a = aK B
      · subst ea
        rw [jA_new.2.2.1, jA_new.2.2.2]; exact Int.le_refl _
      · rw [(jA_old ea).2.2.1, (jA_old ea).2.2.2]
        exact (fl_red (T := uT n kd d B c e) (B := uB kd B c e) (U := aT B a) (X := aO B a) ub.1).2.mp (hG'.1 a c e (by omega) hC hD hne)
    · rw [(jA_old (k := b) eb).2.2.1, (jA_old (k := b) eb).2.2.2, (jA_old (k := a) (by omega)).2.2.1, (jA_old (k := a) (by omega)).2.2.2]
      exact hG'.2 a b hab (by omega)
theorem gIt_ok (hk : kd < 5) (hd : DD d) (hn : n ≤ 20) : ∀ k, k ≤ n - 1 → AI n kd d (gIt n kd d k) ∧ aK (gIt n kd d k) = k ∧ GS n kd d (gIt n kd d k)
  | 0, _ => ⟨AI_beg hk hd hn, rfl, fun k c e hk => absurd hk (Nat.not_lt_zero k), fun a b _ hb => absurd hb (Nat.not_lt_zero b)⟩
  | k + 1, h => by
    obtain ⟨h1, h2, h3⟩ := gIt_ok hk hd hn k (by omega)
    have hL : 2 ≤ (aF (gIt n kd d k)).length := by have := h1.1.1; omega
    have b := gPk_ok h1 hL
    refine ⟨gStep_AI hk hd h1 b, ?_, GS_step hk hd h1 h3 b⟩
    show aK (gIt n kd d k) + 1 = k + 1
    rw [h2]
theorem X_jg {σ : St} (hk : kd < 5) (hd : DD d) (hn : n ≤ 20) (hX : CX σ n kd d (aBeg n) R) (hN : 3000 ≤ N) : wp (fX1_joinGreedily N σ) (fun _ σ' => ∃ R', CX σ' n kd d (gIt n kd d (n - 1)) R' ∧ fr sJn σ σ') := by
  unfold fX1_joinGreedily
  have key : ∀ m k (ρ : St), k ≤ n - 1 → n - 1 - k < m → (∃ R', CX ρ n kd d (gIt n kd d k) R' ∧ fr sJn σ ρ) → wp (fX1_joinGreedily_2 N m (nI k) ρ) (fun _ σ' => ∃ R', CX σ' n kd d (gIt n kd d (n - 1)) R' ∧ fr sJn σ σ') := by
    refine loop_i (fun m k (ρ : St) => wp (fX1_joinGreedily_2 N m (nI k) ρ) _) (fun k ρ => ∃ R', CX ρ n kd d (gIt n kd d k) R' ∧ fr sJn σ ρ) (n - 1) ?_ ?_
    · rintro m ρ ⟨R', h1, h2⟩
      obtain ⟨a1, a2, -⟩ := gIt_ok hk hd hn (n - 1) (Nat.le_refl _)
      have e6 : ρ.1 11 6 = nI (aF (gIt n kd d (n - 1))).length := by rw [h1.2.1.1, List.length_map]
      have hl : (aF (gIt n kd d (n - 1))).length ≤ 1 := by have := a1.1.1; omega
      rw [fX1_joinGreedily_2, e6]
      exact wp_i (fun _ => wp_some ⟨R', h1, h2⟩) (fun _ => wp_t (nI_le (b := 1) hl (by omega)) (wp_some ⟨R', h1, h2⟩))
    · rintro m k ρ hkn ⟨R', h1, h2⟩ ih
      obtain ⟨a1, a2, -⟩ := gIt_ok hk hd hn k (by omega)
      have e6 : ρ.1 11 6 = nI (aF (gIt n kd d k)).length := by rw [h1.2.1.1, List.length_map]
      have hl : 2 ≤ (aF (gIt n kd d k)).length := by have := a1.1.1; omega
      have hl2 : (aF (gIt n kd d k)).length ≤ 20 := by have := a1.1.1; omega
      rw [fX1_joinGreedily_2, e6]
      refine wp_f (nI_ge (b := 19) (by omega) (by omega)) (wp_f (nI_ge (a := 1) (by omega) (by omega)) (wp_bd (X_glp hk hd a1 h1 hl hN) (fun _ s hs => wp_nx ?_)))
      obtain ⟨c, e, t, R2, hB, hC, hf⟩ := hs
      show wp (fX1_joinGreedily_2 N m (nI k + 1) s) _
      rw [nI_1]
      refine ih s ⟨R2, ?_, fr_tr h2 hf⟩
      rw [gNx_eq a1 hl hB] at hC
      exact hC
  exact key N 0 σ (by omega) (by omega) ⟨R, hX, fr_rf⟩
theorem M_jg {τ : St} {q : Int32} {Q : Int32 → St → Prop} (hk : kd < 5) (hd : DOK n d px py) (hP : PM τ n d px py) (hM : CM τ n (aBeg n)) (hQ : ∀ τ', CM τ' n (gIt n kd d (n - 1)) → fr sJm τ τ' → wp (bd (fX8_keeps N q (nI kd) 0 τ') (fun _ s => some (s.1 0 11, s))) Q) (hN : 3000 ≤ N) : wp (fX8_greedy_22 N N q (nI kd) τ) Q := by
  have hn := hd.1
  have hdd := hd.dd
  have key : ∀ m k (ρ : St), k ≤ n - 1 → n - 1 - k < m → (CM ρ n (gIt n kd d k) ∧ fr sJm τ ρ) → wp (fX8_greedy_22 N m q (nI kd) ρ) Q := by
    refine loop_i (fun m k (ρ : St) => wp (fX8_greedy_22 N m q (nI kd) ρ) Q) (fun k ρ => CM ρ n (gIt n kd d k) ∧ fr sJm τ ρ) (n - 1) ?_ ?_
    · rintro m ρ ⟨h1, h2⟩
      obtain ⟨a1, a2, -⟩ := gIt_ok hk hdd hn (n - 1) (Nat.le_refl _)
      have P1 : PM ρ n d px py := hP.fr h2 (fun c k hc => by unfold sPM at hc; unfold sJm; omega)
      rw [fX8_greedy_22, P1.1, h1.1.1, a2]
      refine wp_t ?_ (hQ ρ h1 h2)
      rcases Nat.eq_zero_or_pos n with z | z
      · rw [z]; decide
      · rw [show (1 : Int32) = nI 1 from rfl, pk_sub (by omega)]; exact nI_le (Nat.le_refl _) (by omega)
    · rintro m k ρ hkn ⟨h1, h2⟩ ih
      obtain ⟨a1, a2, -⟩ := gIt_ok hk hdd hn k (by omega)
      have P1 : PM ρ n d px py := hP.fr h2 (fun c k hc => by unfold sPM at hc; unfold sJm; omega)
      have hl : 2 ≤ (aF (gIt n kd d k)).length := by have := a1.1.1; omega
      rw [fX8_greedy_22, P1.1, h1.1.1, a2]
      refine wp_f ?_ (wp_bd (M_gs hk hd P1 a1 h1 hl hN) (fun _ s hs => ?_))
      · rw [show (1 : Int32) = nI 1 from rfl, pk_sub (by omega)]; exact nI_ge hkn (by omega)
      obtain ⟨c, e, t, hB, hC, hf⟩ := hs
      rw [gNx_eq a1 hl hB] at hC
      exact ih s ⟨hC, fr_tr h2 hf⟩
  exact key N 0 τ (by omega) (by omega) ⟨hM, fr_rf⟩
end
