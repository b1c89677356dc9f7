/-! a greedy step of the reference -/
section
variable {N n kd : Nat} {d : Nat → Nat → Nat} {px py : Nat → Int32} {A : Aj}
theorem CMfr {S : Nat → Nat → Prop} {τ τ' : St} (h : CM τ n A) (hf : fr S τ τ') (hs : ∀ c k, (c = 0 ∧ (k = 11 ∨ k = 31)) ∨ c = 7 ∨ (19 ≤ c ∧ c ≤ 24) → ¬ S c k) : CM τ' n A := by
  have e : ∀ c k, ((c = 0 ∧ (k = 11 ∨ k = 31)) ∨ c = 7 ∨ (19 ≤ c ∧ c ≤ 24)) → τ'.1 c k = τ.1 c k ∧ τ'.2 c k = τ.2 c k := fun c k hc => hf c k (hs c k hc)
  refine ⟨⟨?_, ?_⟩, fun c hc => ⟨?_, ?_⟩, fun k hk => ⟨?_, ?_, ?_, ?_, ?_⟩⟩
  · rw [(e 0 11 (by omega)).1]; exact h.1.1
  · rw [(e 0 31 (by omega)).1]; exact h.1.2
  · rw [(e 19 c (by omega)).1]; exact (h.2.1 c hc).1
  · rw [(e 20 c (by omega)).1]; exact (h.2.1 c hc).2
  · rw [(e 7 k (by omega)).1]; exact (h.2.2 k hk).1
  · rw [(e 21 k (by omega)).1]; exact (h.2.2 k hk).2.1
  · rw [(e 22 k (by omega)).1]; exact (h.2.2 k hk).2.2.1
  · rw [(e 23 k (by omega)).2]; exact (h.2.2 k hk).2.2.2.1
  · rw [(e 24 k (by omega)).2]; exact (h.2.2 k hk).2.2.2.2
theorem CM.tie {τ : St} {s : Nat} (h : CM τ n A) : CM (sI τ 0 31 (nI s)) n (aTie A s) := by
  refine ⟨⟨?_, sI_at⟩, fun c hc => ⟨?_, ?_⟩, fun k hk => ⟨?_, ?_, ?_, (h.2.2 k hk).2.2.2.1, (h.2.2 k hk).2.2.2.2⟩⟩
  · rw [sI_of (by omega)]; exact h.1.1
  · rw [sI_of (by omega)]; exact (h.2.1 c hc).1
  · rw [sI_of (by omega)]; exact (h.2.1 c hc).2
  · rw [sI_of (by omega)]; exact (h.2.2 k hk).1
  · rw [sI_of (by omega)]; exact (h.2.2 k hk).2.1
  · rw [sI_of (by omega)]; exact (h.2.2 k hk).2.2.1
def sLo (c k : Nat) : Prop := c = 0 ∧ (k = 12 ∨ k = 13)
theorem lo_fr {τ : St} {T : Int} {B : Nat} : fr sLo τ (lo τ T B) := fr_J (fr_J fr_rf ⟨rfl, Or.inl rfl⟩) ⟨rfl, Or.inr rfl⟩
theorem lo_12 {τ : St} {T : Int} {B : Nat} : (lo τ T B).2 0 12 = lZ (rT T B) := by unfold lo; rw [sJ_of (by omega)]; exact sJ_at
theorem lo_13 {τ : St} {T : Int} {B : Nat} : (lo τ T B).2 0 13 = lN (rB T B) := by unfold lo; exact sJ_at
theorem CMlo {τ τ' : St} (h : CM τ n A) (hf : fr sLo τ τ') : CM τ' n A := CMfr h hf (fun c k hc => by unfold sLo; omega)
theorem PMlo {τ τ' : St} (h : PM τ n d px py) (hf : fr sLo τ τ') : PM τ' n d px py := h.fr hf (fun c k hc => by unfold sPM at hc; unfold sLo; omega)
/-- the pairs met by the reference -/
def Dm (A : Aj) (i j x y : Nat) : Prop := fp A x y ∧ (x < i ∨ (x = i ∧ y < j))
/-- its locals tell the least pair -/
def MS (n kd : Nat) (d : Nat → Nat → Nat) (A : Aj) (D : Nat → Nat → Prop) (x2 x3 : Int32) (x4 x6 : Int64) (x8 : Int32) : Prop := (x2 = -1 ∧ x8 = 0 ∧ ∀ x y, ¬ D x y) ∨ ∃ c e t, x2 = nI c ∧ x3 = nI e ∧ x4 = lZ (rT (uT n kd d A c e) (uB kd A c e)) ∧ x6 = lN (rB (uT n kd d A c e) (uB kd A c e)) ∧ x8 = nI (bN t) ∧ Bst n kd d A D c e t
theorem MS.con {D E : Nat → Nat → Prop} {x2 x3 : Int32} {x4 x6 : Int64} {x8 : Int32} (h : MS n kd d A D x2 x3 x4 x6 x8) (hi : ∀ x y, D x y ↔ E x y) : MS n kd d A E x2 x3 x4 x6 x8 := by
  have : D = E := by funext x y; exact propext (hi x y)
  rw [← this]; exact h
abbrev Gp (N n kd : Nat) (d : Nat → Nat → Nat) (A : Aj) (τ : St) : Unit → St → Prop := fun _ τ' => ∃ c e t, Bst n kd d A (fp A) c e t ∧ CM τ' n (gStep n kd d A c e t) ∧ fr sJm τ τ'
theorem M_gs181 {τ0 τ : St} {c e : Nat} {t : Bool} {y : Int32} (hA : AI n kd d A) (h0 : τ.1 0 0 = nI n) (hM : CM τ n A) (hB : Bst n kd d A (fp A) c e t) (hf : fr sJm τ0 τ) (hy : y = nI (bN t)) : wp (fX8_greedyStep_181 N (nI c) (nI e) (lZ (rT (uT n kd d A c e) (uB kd A c e))) (lN (rB (uT n kd d A c e) (uB kd A c e))) y (τ.1 0 31) τ) (Gp N n kd d A τ0) := by
  unfold fX8_greedyStep_181
  refine wp_nx (wp_nx (wp_nx ?_))
  rw [hM.1.2, hy, nI_add]
  have h1 := hB.1
  have M1 : CM (sJ (sJ (sI τ 0 31 (nI (aS A + bN t))) 0 12 (lZ (rT (uT n kd d A c e) (uB kd A c e)))) 0 13 (lN (rB (uT n kd d A c e) (uB kd A c e)))) n (aTie A (aS A + bN t)) := CMlo hM.tie (fr_J (fr_J fr_rf ⟨rfl, Or.inl rfl⟩) ⟨rfl, Or.inr rfl⟩)
  refine wp_bd (M_joined (A := aTie A (aS A + bN t)) (C := c) (D := e) (kd := kd) (d := d) hA.1 M1 ?_ h1.1 h1.2.1 (by have := h1.2.2; omega) (Or.inl ⟨rfl, rfl⟩) ?_ ?_) (fun _ τ' hh => wp_some ⟨c, e, t, hB, hh.1, fr_tr hf (fr_tr ?_ (fr_mo hh.2 (fun c k h => ?_)))⟩)
  · rw [sJ_p, sJ_p, sI_of (by omega)]; exact h0
  · rw [sJ_of (by omega)]; exact sJ_at
  · exact sJ_at
  · refine fr_J (fr_J (fr_I fr_rf ?_) ?_) ?_ <;> (unfold sJm; omega)
  · unfold sJ2 at h; unfold sJm; omega
theorem M_gs {τ : St} (hk : kd < 5) (hd : DOK n d px py) (hP : PM τ n d px py) (hA : AI n kd d A) (hM : CM τ n A) (hL : 2 ≤ (aF A).length) (hN : 3000 ≤ N) : wp (fX8_greedyStep N (nI kd) τ) (Gp N n kd d A τ) := by
  have hI := hA.1
  have hdd := hd.dd
  have ln := hI.1
  have hn := hI.2.1
  have m1 : (-1 : Int32) < 0 := by decide
  unfold fX8_greedyStep
  have key : ∀ m i (ρ : Int32 × Int32 × Int64 × Int64 × Int32 × St), i ≤ n + aK A → n + aK A - i < m → (fr sLo τ ρ.2.2.2.2.2 ∧ MS n kd d A (Dm A i 0) ρ.1 ρ.2.1 ρ.2.2.1 ρ.2.2.2.1 ρ.2.2.2.2.1) → wp (fX8_greedyStep_16 N m (nI kd) ρ.1 ρ.2.1 ρ.2.2.1 ρ.2.2.2.1 ρ.2.2.2.2.1 (nI i) ρ.2.2.2.2.2) (Gp N n kd d A τ) := by
    refine loop_i (fun m i (ρ : Int32 × Int32 × Int64 × Int64 × Int32 × St) => wp (fX8_greedyStep_16 N m (nI kd) ρ.1 ρ.2.1 ρ.2.2.1 ρ.2.2.2.1 ρ.2.2.2.2.1 (nI i) ρ.2.2.2.2.2) (Gp N n kd d A τ)) (fun i ρ => fr sLo τ ρ.2.2.2.2.2 ∧ MS n kd d A (Dm A i 0) ρ.1 ρ.2.1 ρ.2.2.1 ρ.2.2.2.1 ρ.2.2.2.2.1) (n + aK A) ?_ ?_
    · rintro m ⟨x2, x3, x4, x6, x8, s⟩ ⟨hf, hS⟩
      simp only at hf hS ⊢
      have M1 := CMlo hM hf
      have P1 := PMlo hP hf
      rw [fX8_greedyStep_16, P1.1, M1.1.1, nI_add]
      refine wp_t (nI_le (Nat.le_refl _) (by omega)) ?_
      have all : ∀ x y, Dm A (n + aK A) 0 x y ↔ fp A x y := fun x y => ⟨fun h => h.1, fun h => ⟨h, Or.inl (hI.2.2.2.1 x h.1)⟩⟩
      have hS := hS.con all
      have f0 : fr sJm τ s := fr_mo hf (fun c k h => by unfold sLo at h; unfold sJm; omega)
      rcases hS with ⟨-, -, hno⟩ | ⟨c, e, t, rfl, rfl, rfl, rfl, rfl, hB⟩
      · exact absurd ⟨gD_mem (by omega), gD_mem (by omega), gD_lt hI.2.2.1 (show 0 < 1 by omega) (by omega)⟩ (hno ((aF A).getD 0 0) ((aF A).getD 1 0))
      · cases t with
        | false => exact wp_t rfl (M_gs181 hA P1.1 M1 hB f0 rfl)
        | true => exact wp_f (by decide) (M_gs181 hA P1.1 M1 hB f0 rfl)
    · rintro m i ⟨x2, x3, x4, x6, x8, s⟩ hi ⟨hf, hS⟩ ih
      simp only at hf hS ⊢
      have M1 := CMlo hM hf
      have P1 := PMlo hP hf
      have i1 : nI i + (1 : Int32) = nI (i + 1) := nI_1 i
      rw [fX8_greedyStep_16, P1.1, M1.1.1, nI_add]
      refine wp_f (nI_ge hi (by omega)) (wp_nx ?_)
      rw [i1]
      have inner : ∀ m2 j (ρ : Int32 × Int32 × Int64 × Int64 × Int32 × St), j ≤ n + aK A → n + aK A - j < m2 → (i < j ∧ fr sLo τ ρ.2.2.2.2.2 ∧ MS n kd d A (Dm A i j) ρ.1 ρ.2.1 ρ.2.2.1 ρ.2.2.2.1 ρ.2.2.2.2.1) → wp (fX8_greedyStep_36 N (fX8_greedyStep_16 N m) m2 (nI kd) ρ.1 ρ.2.1 ρ.2.2.1 ρ.2.2.2.1 ρ.2.2.2.2.1 (nI i) (nI j) ρ.2.2.2.2.2) (Gp N n kd d A τ) := by
        refine loop_i (fun m2 j (ρ : Int32 × Int32 × Int64 × Int64 × Int32 × St) => wp (fX8_greedyStep_36 N (fX8_greedyStep_16 N m) m2 (nI kd) ρ.1 ρ.2.1 ρ.2.2.1 ρ.2.2.2.1 ρ.2.2.2.2.1 (nI i) (nI j) ρ.2.2.2.2.2) (Gp N n kd d A τ)) (fun j ρ => i < j ∧ fr sLo τ ρ.2.2.2.2.2 ∧ MS n kd d A (Dm A i j) ρ.1 ρ.2.1 ρ.2.2.1 ρ.2.2.2.1 ρ.2.2.2.2.1) (n + aK A) ?_ ?_
        · rintro m2 ⟨x2, x3, x4, x6, x8, s⟩ ⟨hij, hf, hS⟩
          simp only at hf hS ⊢
          have M1 := CMlo hM hf
          have P1 := PMlo hP hf
          rw [fX8_greedyStep_36, P1.1, M1.1.1, nI_add]
          refine wp_t (nI_le (Nat.le_refl _) (by omega)) (wp_nx ?_)
          rw [i1]
          refine ih (x2, x3, x4, x6, x8, s) ⟨hf, hS.con (fun x y => ?_)⟩
          constructor
          · rintro ⟨h1, h2⟩; exact ⟨h1, by omega⟩
          · rintro ⟨h1, h2⟩; exact ⟨h1, by have := hI.2.2.2.1 y h1.2.1; omega⟩
        · rintro m2 j ⟨x2, x3, x4, x6, x8, s⟩ hj ⟨hij, hf, hS⟩ ih2
          simp only at hf hS ⊢
          have M1 := CMlo hM hf
          have P1 := PMlo hP hf
          have j1 : nI j + (1 : Int32) = nI (j + 1) := nI_1 j
          have gi : ib (nI i) 40 = true := ibn (by omega) (by decide)
          have gj : ib (nI j) 40 = true := ibn (by omega) (by decide)
          rw [fX8_greedyStep_36, P1.1, M1.1.1, nI_add]
          unfold fX8_greedyStep_115 fX8_greedyStep_125 fX8_greedyStep_154
          refine wp_f (nI_ge hj (by omega)) (wp_gd gi ?_)
          rw [cl i (by omega), cl j (by omega), j1, (M1.2.1 i hi).2, (M1.2.1 j hj).2]
          have skip : ¬ fp A i j → MS n kd d A (Dm A i (j + 1)) x2 x3 x4 x6 x8 := fun h => hS.con (fun x y => by
            constructor
            · rintro ⟨h1, h2⟩; exact ⟨h1, by omega⟩
            · rintro ⟨h1, h2⟩
              refine ⟨h1, ?_⟩
              by_cases e : x = i ∧ y = j
              · obtain ⟨rfl, rfl⟩ := e; exact absurd h1 h
              · omega)
          by_cases ci : i ∈ aF A
          · rw [if_pos ci]
            refine wp_f (by decide) (wp_gd gj ?_)
            by_cases cj : j ∈ aF A
            · rw [if_pos cj]
              refine wp_f (by decide) (wp_gd gi (wp_gd gj ?_))
              rw [(M1.2.1 i hi).1, (M1.2.1 j hj).1, M_lk hk hd P1 hI hA.2.1 M1 ci cj (by omega) hN, bd_s, lo_12, lo_13]
              have f2 : fr sLo τ (lo s (uT n kd d A i j) (uB kd A i j)) := fr_tr hf lo_fr
              have mx : fp A i j := ⟨ci, cj, hij⟩
              have hlt : ∀ a b, Dm A i j a b → cd a b < cd i j := by
                rintro a b ⟨h1, h2⟩
                have := hI.2.2.2.1 b h1.2.1
                unfold cd; omega
              have dd : ∀ x y, (Dm A i j x y ∨ (x = i ∧ y = j)) ↔ Dm A i (j + 1) x y := by
                intro x y
                constructor
                · rintro (⟨h1, h2⟩ | ⟨rfl, rfl⟩)
                  · exact ⟨h1, by omega⟩
                  · exact ⟨mx, by omega⟩
                · rintro ⟨h1, h2⟩
                  by_cases e : x = i ∧ y = j
                  · exact Or.inr e
                  · exact Or.inl ⟨h1, by omega⟩
              rcases hS with ⟨rfl, rfl, hno⟩ | ⟨c, e, t, rfl, rfl, rfl, rfl, rfl, hB⟩
              · refine wp_f (by decide) (wp_f (by decide) (wp_t m1 (wp_nx (wp_nx (wp_nx ?_)))))
                refine ih2 (nI i, nI j, _, _, 0, _) ⟨by omega, f2, Or.inr ⟨i, j, false, rfl, rfl, rfl, rfl, rfl, ?_⟩⟩
                refine (Bst.one ci).con (fun x y => ?_)
                rw [← dd]
                exact ⟨Or.inr, fun h => h.elim (fun z => absurd z (hno x y)) id⟩
              · have mc := hB.1.1
                have lc := hI.2.2.2.1 c mc.1
                refine wp_t (show (0 : Int32) ≤ nI c from Int32.not_lt.mp (nI_pos (by omega))) ?_
                rw [M_cmv hk hdd hA ci cj (by omega) mc.1 mc.2.1 (by have := mc.2.2; omega), bd_s]
                have st := hB.step hA (fun x y hh => hh.1) mx hlt
                refine wp_i (fun c1 => ?_) (fun c1 => ?_)
                · have z := sg_eq.mp c1
                  refine wp_f (fun y => by have := sg_lt.mp y; omega) (wp_nx ?_)
                  exact ih2 (nI c, nI e, _, _, 1, _) ⟨by omega, f2, Or.inr ⟨c, e, true, rfl, rfl, rfl, rfl, rfl, (st.2.1 z).con dd⟩⟩
                · refine wp_i (fun c2 => ?_) (fun c2 => ?_)
                  · have z := sg_lt.mp c2
                    refine wp_nx (wp_nx (wp_nx ?_))
                    rw [lo_12, lo_13]
                    exact ih2 (nI i, nI j, _, _, 0, _) ⟨by omega, f2, Or.inr ⟨i, j, false, rfl, rfl, rfl, rfl, rfl, (st.1 z).con dd⟩⟩
                  · have z1 : ¬ cmv n kd d A i j c e < 0 := fun y => c2 (sg_lt.mpr y)
                    have z2 : ¬ cmv n kd d A i j c e = 0 := fun y => c1 (sg_eq.mpr y)
                    refine wp_nx ?_
                    exact ih2 (nI c, nI e, _, _, _, _) ⟨by omega, f2, Or.inr ⟨c, e, t, rfl, rfl, rfl, rfl, rfl, (st.2.2 (by omega)).con dd⟩⟩
            · rw [if_neg cj]
              refine wp_t rfl (wp_nx ?_)
              exact ih2 (x2, x3, x4, x6, x8, s) ⟨by omega, hf, skip (fun h => cj h.2.1)⟩
          · rw [if_neg ci]
            refine wp_t rfl (wp_nx ?_)
            exact ih2 (x2, x3, x4, x6, x8, s) ⟨by omega, hf, skip (fun h => ci h.1)⟩
      refine inner N (i + 1) (x2, x3, x4, x6, x8, s) (by omega) (by omega) ⟨by omega, hf, hS.con (fun x y => ?_)⟩
      constructor
      · rintro ⟨h1, h2⟩; exact ⟨h1, by omega⟩
      · rintro ⟨h1, h2⟩; exact ⟨h1, by have := h1.2.2; omega⟩
  exact key N 0 (-1, -1, 0, 1, 0, τ) (by omega) (by omega) ⟨fr_rf, Or.inl ⟨rfl, rfl, fun x y h => by have := h.2; omega⟩⟩
end
