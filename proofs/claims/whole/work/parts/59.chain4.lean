/-! the reference follows chains -/
section
variable {N n kd : Nat} {d : Nat → Nat → Nat} {px py : Nat → Int32}
def CMS (τ : St) (n : Nat) (s : Cs) : Prop := CM τ n s.1 ∧ τ.1 0 33 = nI s.2.2 ∧ ∀ j, j < s.2.2 → τ.1 25 j = nI (s.2.1 j)
def MN (n kd : Nat) (d : Nat → Nat → Nat) (A : Aj) (x : Nat) (bo D : Nat → Prop) (x4 : Int32) (x5 x7 : Int64) (x9 : Int32) : Prop := (x4 = -1 ∧ x9 = 0 ∧ ∀ y, ¬ D y) ∨ ∃ e t, x4 = nI e ∧ x5 = lZ (rT (uT n kd d A x e) (uB kd A x e)) ∧ x7 = lN (rB (uT n kd d A x e) (uB kd A x e)) ∧ x9 = nI (bN t) ∧ Nr n kd d A x bo D e t
theorem MN.con {A : Aj} {x : Nat} {bo D E : Nat → Prop} {x4 : Int32} {x5 x7 : Int64} {x9 : Int32} (h : MN n kd d A x bo D x4 x5 x7 x9) (hi : ∀ y, D y ↔ E y) : MN n kd d A x bo E x4 x5 x7 x9 := by
  have : D = E := by funext y; exact propext (hi y)
  rw [← this]; exact h
abbrev Cp (n kd : Nat) (d : Nat → Nat → Nat) (s : Cs) (τ : St) : Unit → St → Prop := fun _ τ' => CMS τ' n (cStp n kd d s (cPk n kd d s).1 (cPk n kd d s).2) ∧ fr sJm τ τ'
theorem M_cs230 {τ0 τ : St} {s : Cs} {e : Nat} {t : Bool} {y : Int32} {y0 : Int32} (hk : kd < 5) (hd : DD d) (hG : CG n kd d s) (hl : 1 ≤ s.2.2) (hL : 2 ≤ (aF s.1).length) (h0 : τ.1 0 0 = nI n) (hM : CMS τ n s) (hNr : NrS n kd d s e t) (hf : fr sJm τ0 τ) (hy : y = nI (bN t)) (hb : (s.2.2 < 2 ∧ y0 = -1) ∨ (2 ≤ s.2.2 ∧ y0 = nI (s.2.1 (s.2.2 - 2)))) : wp (fX8_chainStep_230 N (nI (s.2.1 (s.2.2 - 1))) y0 (nI e) (lZ (rT (uT n kd d s.1 (s.2.1 (s.2.2 - 1)) e) (uB kd s.1 (s.2.1 (s.2.2 - 1)) e))) (lN (rB (uT n kd d s.1 (s.2.1 (s.2.2 - 1)) e) (uB kd s.1 (s.2.1 (s.2.2 - 1)) e))) y (τ.1 0 31) τ) (Cp n kd d s τ0) := by
  have hu := hNr.u (cPk_ok hG hl hL)
  unfold Cp
  rw [← hu.1, ← hu.2]
  obtain ⟨A, S, l⟩ := s
  obtain ⟨hA, hC⟩ := hG
  obtain ⟨hM, hD, hS⟩ := hM
  simp only at hA hC hM hD hS hl hL hb
  have hNr' : Nr n kd d A (S (l - 1)) (bel S l) (oth A (S (l - 1))) e t := hNr
  have hI := hA.1
  have hlen := CI.len hI hC
  have hl20 : (aF A).length ≤ 20 := by have := hI.1; have := hI.2.1; omega
  have ln := hI.1
  have hn := hI.2.1
  have hx := hC.1 (l - 1) (by omega)
  have he := hNr'.1
  have le := hI.2.2.2.1 e he.1
  unfold fX8_chainStep_230
  refine wp_nx ?_
  rw [hM.1.2, hy, nI_add]
  have M1 : CM (sI τ 0 31 (nI (aS A + bN t))) n (aTie A (aS A + bN t)) := hM.tie
  have d1 : (sI τ 0 31 (nI (aS A + bN t))).1 0 33 = nI l := by rw [sI_of (by omega)]; exact hD
  have beq : nI e = y0 ↔ bel S l e := by
    rcases hb with ⟨h1, rfl⟩ | ⟨h1, rfl⟩
    · exact ⟨fun z => absurd z (nI_m1 (by omega)), fun z => by have := z.1; omega⟩
    · have l2 := hI.2.2.2.1 _ (hC.1 (l - 2) (by omega))
      rw [nI_eq (by omega) (by omega)]
      exact ⟨fun z => ⟨h1, z⟩, fun z => z.2⟩
  refine wp_i (fun c => wp_nx (wp_nx (wp_nx ?_))) (fun c => ?_)
  · have hbe := beq.mp c
    have h2 := hbe.1
    have hbm := hC.1 (l - 2) (by omega)
    rw [d1, show (2 : Int32) = nI 2 from rfl, pk_sub h2]
    have M2 : CM (sJ (sJ (sI (sI τ 0 31 (nI (aS A + bN t))) 0 33 (nI (l - 2))) 0 12 (lZ (rT (uT n kd d A (S (l - 1)) e) (uB kd A (S (l - 1)) e)))) 0 13 (lN (rB (uT n kd d A (S (l - 1)) e) (uB kd A (S (l - 1)) e)))) n (aTie A (aS A + bN t)) := CMfr M1 (S := fun c k => c = 0 ∧ (k = 33 ∨ k = 12 ∨ k = 13)) (fr_J (fr_J (fr_I fr_rf ⟨rfl, Or.inl rfl⟩) ⟨rfl, Or.inr (Or.inl rfl)⟩) ⟨rfl, Or.inr (Or.inr rfl)⟩) (fun c k hc => by omega)
    have eu : rT (uT n kd d A (S (l - 1)) e) (uB kd A (S (l - 1)) e) = rT (uT n kd d A (S (l - 2)) (S (l - 1))) (uB kd A (S (l - 2)) (S (l - 1))) ∧ rB (uT n kd d A (S (l - 1)) e) (uB kd A (S (l - 1)) e) = rB (uT n kd d A (S (l - 2)) (S (l - 1))) (uB kd A (S (l - 2)) (S (l - 1))) := by
      rw [hbe.2, uT_sym hk hd hI hx hbm, uB_sym (c := S (l - 1))]; exact ⟨rfl, rfl⟩
    refine wp_bd (M_joined (A := aTie A (aS A + bN t)) (C := S (l - 2)) (D := S (l - 1)) (kd := kd) (d := d) hI M2 ?_ hbm hx (hC.2.1 (l - 2) (l - 1) (by omega) (by omega)) (Or.inr ⟨rfl, hbe.2⟩) ?_ ?_) (fun _ τ' hh => wp_some ⟨?_, fr_tr hf (fr_tr ?_ (fr_mo hh.2 (fun c k h => ?_)))⟩)
    · rw [sJ_p, sJ_p, sI_of (by omega), sI_of (by omega)]; exact h0
    · rw [sJ_of (by omega), sJ_at, eu.1]; rfl
    · rw [sJ_at, eu.2]; rfl
    · unfold cStp
      rw [if_pos (show bel (A, S, l).2.1 (A, S, l).2.2 e from hbe)]
      refine ⟨hh.1, ?_, fun j hj => ?_⟩
      · rw [(hh.2 0 33 (by unfold sJ2; omega)).1, sJ_p, sJ_p]; exact sI_at
      · have hj' : j < l - 2 := hj
        rw [(hh.2 25 j (by unfold sJ2; omega)).1, sJ_p, sJ_p, sI_of (by omega), sI_of (by omega)]; exact hS j (by omega)
    · refine fr_J (fr_J (fr_I (fr_I fr_rf ?_) ?_) ?_) ?_ <;> (unfold sJm; omega)
    · unfold sJ2 at h; unfold sJm; omega
  · have hbe : ¬ bel S l e := fun z => c (beq.mpr z)
    rw [d1]
    refine wp_gd (ibn (by omega) (by decide)) (wp_nx (wp_nx (wp_some ⟨?_, fr_tr hf ?_⟩)))
    · unfold cStp
      rw [if_neg (show ¬ bel (A, S, l).2.1 (A, S, l).2.2 e from hbe), cl l (by omega)]
      refine ⟨CMfr M1 (S := fun c k => c = 25 ∨ (c = 0 ∧ k = 33)) (fr_I (fr_I fr_rf (Or.inl rfl)) (Or.inr ⟨rfl, rfl⟩)) (fun c k hc => by omega), ?_, fun j hj => ?_⟩
      · rw [sI_at, sI_of (by omega), d1]; exact nI_1 l
      · have hj' : j < l + 1 := hj
        rw [sI_of (by omega)]
        show _ = nI (if j = l then e else S j)
        by_cases ej : j = l
        · subst ej; rw [if_pos rfl]; exact sI_at
        · rw [if_neg ej, sI_of (by omega), sI_of (by omega)]; exact hS j (by omega)
    · refine fr_I (fr_I (fr_I fr_rf ?_) ?_) ?_ <;> (unfold sJm; omega)
theorem M_cs71 {τ : St} {s : Cs} {y0 : Int32} (hk : kd < 5) (hd : DOK n d px py) (hP : PM τ n d px py) (hG : CG n kd d s) (hl : 1 ≤ s.2.2) (hL : 2 ≤ (aF s.1).length) (hM : CMS τ n s) (hb : (s.2.2 < 2 ∧ y0 = -1) ∨ (2 ≤ s.2.2 ∧ y0 = nI (s.2.1 (s.2.2 - 2)))) (hN : 3000 ≤ N) : wp (fX8_chainStep_71 N (nI kd) (nI (s.2.1 (s.2.2 - 1))) y0 τ) (Cp n kd d s τ) := by
  have hdd := hd.dd
  have hA := hG.1
  have hI := hA.1
  have ln := hI.1
  have hn := hI.2.1
  have hx := hG.2.1 (s.2.2 - 1) (by omega)
  have lx := hI.2.2.2.1 _ hx
  have m1 : (-1 : Int32) < 0 := by decide
  unfold fX8_chainStep_71
  have key : ∀ m i (ρ : Int32 × Int64 × Int64 × Int32 × St), i ≤ n + aK s.1 → n + aK s.1 - i < m → (fr sLo τ ρ.2.2.2.2 ∧ MN n kd d s.1 (s.2.1 (s.2.2 - 1)) (bel s.2.1 s.2.2) (fun y => oth s.1 (s.2.1 (s.2.2 - 1)) y ∧ y < i) ρ.1 ρ.2.1 ρ.2.2.1 ρ.2.2.2.1) → wp (fX8_chainStep_87 N m (nI kd) (nI (s.2.1 (s.2.2 - 1))) y0 ρ.1 ρ.2.1 ρ.2.2.1 ρ.2.2.2.1 (nI i) ρ.2.2.2.2) (Cp n kd d s τ) := by
    refine loop_i (fun m i (ρ : Int32 × Int64 × Int64 × Int32 × St) => wp (fX8_chainStep_87 N m (nI kd) (nI (s.2.1 (s.2.2 - 1))) y0 ρ.1 ρ.2.1 ρ.2.2.1 ρ.2.2.2.1 (nI i) ρ.2.2.2.2) (Cp n kd d s τ)) (fun i ρ => fr sLo τ ρ.2.2.2.2 ∧ MN n kd d s.1 (s.2.1 (s.2.2 - 1)) (bel s.2.1 s.2.2) (fun y => oth s.1 (s.2.1 (s.2.2 - 1)) y ∧ y < i) ρ.1 ρ.2.1 ρ.2.2.1 ρ.2.2.2.1) (n + aK s.1) ?_ ?_
    · rintro m ⟨x4, x5, x7, x9, ρ⟩ ⟨hf, hS⟩
      simp only at hf hS ⊢
      have M1 := CMlo hM.1 hf
      have P1 := PMlo hP hf
      have MS1 : CMS ρ n s := ⟨M1, by rw [(hf 0 33 (by unfold sLo; omega)).1]; exact hM.2.1, fun j hj => by rw [(hf 25 j (by unfold sLo; omega)).1]; exact hM.2.2 j hj⟩
      rw [fX8_chainStep_87, P1.1, M1.1.1, nI_add]
      refine wp_t (nI_le (Nat.le_refl _) (by omega)) ?_
      have hS := hS.con (fun y => (⟨fun h => h.1, fun h => ⟨h, hI.2.2.2.1 y h.1⟩⟩ : (oth s.1 (s.2.1 (s.2.2 - 1)) y ∧ y < n + aK s.1) ↔ oth s.1 (s.2.1 (s.2.2 - 1)) y))
      have f0 : fr sJm τ ρ := fr_mo hf (fun c k h => by unfold sLo at h; unfold sJm; omega)
      rcases hS with ⟨-, -, hno⟩ | ⟨e, t, rfl, rfl, rfl, rfl, hB⟩
      · exfalso
        have h0 := gD_mem (L := aF s.1) (i := 0) (by omega)
        have h1 := gD_mem (L := aF s.1) (i := 1) (by omega)
        have lt := gD_lt hI.2.2.1 (show 0 < 1 by omega) (by omega)
        by_cases e : (aF s.1).getD 0 0 = s.2.1 (s.2.2 - 1)
        · exact hno _ ⟨h1, by omega⟩
        · exact hno _ ⟨h0, e⟩
      · cases t with
        | false => exact wp_t rfl (M_cs230 hk hdd hG hl hL P1.1 MS1 hB f0 rfl hb)
        | true => exact wp_f (by decide) (M_cs230 hk hdd hG hl hL P1.1 MS1 hB f0 rfl hb)
    · rintro m i ⟨x4, x5, x7, x9, ρ⟩ hi ⟨hf, hS⟩ ih
      simp only at hf hS ⊢
      have M1 := CMlo hM.1 hf
      have P1 := PMlo hP hf
      have i1 : nI i + (1 : Int32) = nI (i + 1) := nI_1 i
      have gi : ib (nI i) 40 = true := ibn (by omega) (by decide)
      have gx : ib (nI (s.2.1 (s.2.2 - 1))) 40 = true := ibn (by omega) (by decide)
      rw [fX8_chainStep_87, P1.1, M1.1.1, nI_add]
      unfold fX8_chainStep_162 fX8_chainStep_182 fX8_chainStep_209
      simp only [nx_r]
      refine wp_f (nI_ge hi (by omega)) (wp_gd gi ?_)
      rw [cl i (by omega), i1, (M1.2.1 i hi).2]
      have skip : ¬ oth s.1 (s.2.1 (s.2.2 - 1)) i → MN n kd d s.1 (s.2.1 (s.2.2 - 1)) (bel s.2.1 s.2.2) (fun y => oth s.1 (s.2.1 (s.2.2 - 1)) y ∧ y < i + 1) x4 x5 x7 x9 := fun h => hS.con (fun y => by
        constructor
        · rintro ⟨h1, h2⟩; exact ⟨h1, by omega⟩
        · rintro ⟨h1, h2⟩
          refine ⟨h1, ?_⟩
          by_cases e : y = i
          · subst e; exact absurd h1 h
          · omega)
      by_cases ci : i ∈ aF s.1
      · rw [if_pos ci]
        refine wp_f (by decide) ?_
        by_cases cx : i = s.2.1 (s.2.2 - 1)
        · refine wp_t (by rw [cx]) ?_
          exact ih (x4, x5, x7, x9, ρ) ⟨hf, skip (fun h => h.2 cx)⟩
        · refine wp_f (fun z => cx ((nI_eq (by omega) (by omega)).mp z)) (wp_gd gx (wp_gd gi ?_))
          have hox : oth s.1 (s.2.1 (s.2.2 - 1)) i := ⟨ci, cx⟩
          rw [cl _ (by omega), (M1.2.1 _ lx).1, (M1.2.1 i hi).1, M_lk hk hd P1 hI hA.2.1 M1 hx ci (fun z => cx z.symm) hN, bd_s, lo_12, lo_13]
          have f2 : fr sLo τ (lo ρ (uT n kd d s.1 (s.2.1 (s.2.2 - 1)) i) (uB kd s.1 (s.2.1 (s.2.2 - 1)) i)) := fr_tr hf lo_fr
          have dd : ∀ y, ((oth s.1 (s.2.1 (s.2.2 - 1)) y ∧ y < i) ∨ y = i) ↔ (oth s.1 (s.2.1 (s.2.2 - 1)) y ∧ y < i + 1) := fun y => by
            constructor
            · rintro (⟨h1, h2⟩ | rfl)
              · exact ⟨h1, by omega⟩
              · exact ⟨hox, by omega⟩
            · rintro ⟨h1, h2⟩
              by_cases e : y = i
              · exact Or.inr e
              · exact Or.inl ⟨h1, by omega⟩
          have beq : nI i = y0 ↔ bel s.2.1 s.2.2 i := by
            rcases hb with ⟨h1, rfl⟩ | ⟨h1, rfl⟩
            · exact ⟨fun z => absurd z (nI_m1 (by omega)), fun z => by have := z.1; omega⟩
            · have l2 := hI.2.2.2.1 _ (hG.2.1 (s.2.2 - 2) (by omega))
              rw [nI_eq (by omega) (by omega)]
              exact ⟨fun z => ⟨h1, z⟩, fun z => z.2⟩
          rcases hS with ⟨rfl, rfl, hno⟩ | ⟨e, t, rfl, rfl, rfl, rfl, hB⟩
          · refine wp_f (by decide) (wp_f (by decide) (wp_t m1 ?_))
            refine ih (nI i, _, _, 0, _) ⟨f2, Or.inr ⟨i, false, rfl, rfl, rfl, rfl, ?_⟩⟩
            refine Nr.one.con (fun y => ?_)
            rw [← dd]
            exact ⟨Or.inr, fun h => h.elim (fun z => absurd z (hno y)) id⟩
          · have he := hB.1.1
            have le := hI.2.2.2.1 e he.1
            refine wp_t (show (0 : Int32) ≤ nI e from Int32.not_lt.mp (nI_pos (by omega))) ?_
            rw [M_cmv hk hdd hA hx ci (fun z => cx z.symm) hx he.1 (fun z => he.2 z.symm), bd_s]
            have st := hB.step hA hx (fun z hz => ⟨hz.1.1, hz.2⟩) ci
            refine wp_i (fun c1 => ?_) (fun c1 => ?_)
            · have z := sg_eq.mp c1
              have nlt : ¬ sg (cmv n kd d s.1 (s.2.1 (s.2.2 - 1)) i (s.2.1 (s.2.2 - 1)) e) < 0 := fun y => by have := sg_lt.mp y; omega
              refine wp_i (fun c2 => wp_f nlt ?_) (fun c2 => wp_f nlt ?_)
              · have ub1 := hI.ub (kd := kd) hx ci
                have ub2 := hI.ub (kd := kd) hx he.1
                have ru := r_uni (T := uT n kd d s.1 (s.2.1 (s.2.2 - 1)) e) (U := uT n kd d s.1 (s.2.1 (s.2.2 - 1)) i) (B := uB kd s.1 (s.2.1 (s.2.2 - 1)) e) (C := uB kd s.1 (s.2.1 (s.2.2 - 1)) i) ub2.1 ub1.1 (by unfold cmv at z; omega)
                refine ih (nI i, _, _, 1, _) ⟨f2, Or.inr ⟨i, true, rfl, ?_, ?_, rfl, (st.2.1 z (beq.mp c2)).con dd⟩⟩
                · show lZ _ = lZ _; rw [ru.1]
                · show lN _ = lN _; rw [ru.2]
              · exact ih (nI e, _, _, 1, _) ⟨f2, Or.inr ⟨e, true, rfl, rfl, rfl, rfl, (st.2.2.1 z (fun w => c2 (beq.mpr w))).con dd⟩⟩
            · refine wp_i (fun c2 => ?_) (fun c2 => ?_)
              · have z := sg_lt.mp c2
                rw [lo_12, lo_13]
                exact ih (nI i, _, _, 0, _) ⟨f2, Or.inr ⟨i, false, rfl, rfl, rfl, rfl, (st.1 z).con dd⟩⟩
              · have z1 : ¬ cmv n kd d s.1 (s.2.1 (s.2.2 - 1)) i (s.2.1 (s.2.2 - 1)) e < 0 := fun y => c2 (sg_lt.mpr y)
                have z2 : ¬ cmv n kd d s.1 (s.2.1 (s.2.2 - 1)) i (s.2.1 (s.2.2 - 1)) e = 0 := fun y => c1 (sg_eq.mpr y)
                exact ih (nI e, _, _, _, _) ⟨f2, Or.inr ⟨e, t, rfl, rfl, rfl, rfl, (st.2.2.2 (by omega)).con dd⟩⟩
      · rw [if_neg ci]
        refine wp_t rfl ?_
        exact ih (x4, x5, x7, x9, ρ) ⟨hf, skip (fun h => ci h.1)⟩
  exact key N 0 (-1, 0, 1, 0, τ) (by omega) (by omega) ⟨fr_rf, Or.inl ⟨rfl, rfl, fun y h => by have := h.2; omega⟩⟩
theorem M_cs36 {τ : St} {s : Cs} (hk : kd < 5) (hd : DOK n d px py) (hP : PM τ n d px py) (hG : CG n kd d s) (hl : 1 ≤ s.2.2) (hL : 2 ≤ (aF s.1).length) (hM : CMS τ n s) (hN : 3000 ≤ N) : wp (fX8_chainStep_36 N (nI kd) τ) (Cp n kd d s τ) := by
  have hlen := CI.len hG.1.1 hG.2
  have hl20 : (aF s.1).length ≤ 20 := by have := hG.1.1.1; have := hG.1.1.2.1; omega
  unfold fX8_chainStep_36
  rw [hM.2.1, show (1 : Int32) = nI 1 from rfl, pk_sub hl]
  refine wp_gd (ibn (by omega) (by decide)) (wp_nx ?_)
  rw [cl _ (by omega), hM.2.2 _ (by omega)]
  refine wp_i (fun c => ?_) (fun c => ?_)
  · have : s.2.2 ≤ 1 := (nI_leI (by omega) (by omega)).mp c
    exact M_cs71 hk hd hP hG hl hL hM (Or.inl ⟨by omega, rfl⟩) hN
  · have h2 : 2 ≤ s.2.2 := by
      rcases Nat.lt_or_ge s.2.2 2 with z | z
      · exact absurd (nI_le (b := 1) (by omega) (by omega)) c
      · exact z
    rw [show (2 : Int32) = nI 2 from rfl, pk_sub h2]
    refine wp_gd (ibn (by omega) (by decide)) ?_
    rw [cl _ (by omega), hM.2.2 _ (by omega)]
    exact M_cs71 hk hd hP hG hl hL hM (Or.inr ⟨h2, rfl⟩) hN
theorem M_cs {τ : St} {s : Cs} (hk : kd < 5) (hd : DOK n d px py) (hP : PM τ n d px py) (hG : CG n kd d s) (hL : 2 ≤ (aF s.1).length) (hM : CMS τ n s) (hN : 3000 ≤ N) : wp (fX8_chainStep N (nI kd) τ) (fun _ τ' => CMS τ' n (cNx n kd d s) ∧ fr sJm τ τ') := by
  obtain ⟨g1, g2, g3, g4⟩ := CG_ini hG (by omega)
  have hL' : 2 ≤ (aF (cIni s).1).length := by rw [g3]; exact hL
  have hI := hG.1.1
  have hl20 : s.2.2 ≤ 20 := by have := CI.len hI hG.2; have := hI.1; have := hI.2.1; omega
  have ln := hI.1
  have hn := hI.2.1
  unfold fX8_chainStep
  rw [hM.2.1]
  refine wp_i (fun c => ?_) (fun c => ?_)
  · have l0 : s.2.2 = 0 := (nI_eq (b := 0) (by omega) (by omega)).mp c
    have eI : cIni s = (s.1, (fun j => if j = 0 then (aF s.1).getD 0 0 else s.2.1 j), 1) := by unfold cIni; rw [if_pos l0]
    have m0 := gD_mem (L := aF s.1) (i := 0) (by omega)
    have lt0 := hI.2.2.2.1 _ m0
    have least : ∀ y, y ∈ aF s.1 → (aF s.1).getD 0 0 ≤ y := fun y hy => by
      obtain ⟨j, hj, rfl⟩ := gD_ex hy
      rcases Nat.eq_zero_or_pos j with z | z
      · subst z; exact Nat.le_refl _
      · exact Nat.le_of_lt (gD_lt hI.2.2.1 z hj)
    have key : ∀ m i (ρ : Unit), i ≤ (aF s.1).getD 0 0 → (aF s.1).getD 0 0 - i < m → True → wp (fX8_chainStep_9 N m (nI kd) (nI i) τ) (fun _ τ' => CMS τ' n (cNx n kd d s) ∧ fr sJm τ τ') := by
      refine loop_i (fun m i (ρ : Unit) => wp (fX8_chainStep_9 N m (nI kd) (nI i) τ) _) (fun i ρ => True) ((aF s.1).getD 0 0) ?_ ?_
      · intro m ρ _
        rw [fX8_chainStep_9]
        refine wp_gd (ibn (by omega) (by decide)) ?_
        rw [cl _ (by omega), (hM.1.2.1 _ lt0).2, if_pos m0]
        refine wp_f (by decide) (wp_gd (by decide) (wp_nx (wp_nx ?_)))
        have f1 : fr (fun c k => c = 25 ∨ (c = 0 ∧ k = 33)) τ (sI (sI τ 25 (0 : Int32).toNatClampNeg (nI ((aF s.1).getD 0 0))) 0 33 1) := fr_I (fr_I fr_rf (Or.inl rfl)) (Or.inr ⟨rfl, rfl⟩)
        have M1 : CMS (sI (sI τ 25 (0 : Int32).toNatClampNeg (nI ((aF s.1).getD 0 0))) 0 33 1) n (cIni s) := by
          rw [eI]
          refine ⟨CMfr hM.1 f1 (fun c k hc => by omega), sI_at, fun j hj => ?_⟩
          have hj' : j < 1 := hj
          have : j = 0 := by omega
          subst this
          rw [sI_of (by omega)]; exact sI_at
        have P1 := hP.fr f1 (fun c k hc => by unfold sPM at hc; omega)
        refine wp_mono (M_cs36 hk hd P1 g1 g2 hL' M1 hN) (fun _ τ' hh => ⟨hh.1, fr_tr (fr_mo f1 (fun c k h => ?_)) hh.2⟩)
        unfold sJm; omega
      · intro m i ρ hi _ ih
        rw [fX8_chainStep_9]
        refine wp_gd (ibn (by omega) (by decide)) ?_
        rw [cl _ (by omega), (hM.1.2.1 i (by omega)).2, if_neg (show ¬ i ∈ aF s.1 from fun z => by have := least i z; omega)]
        refine wp_t rfl (wp_nx ?_)
        show wp (fX8_chainStep_9 N m (nI kd) (nI i + 1) τ) _
        rw [nI_1]
        exact ih () trivial
    exact key N 0 () (by omega) (by omega) trivial
  · have l0 : ¬ s.2.2 = 0 := fun z => c (by rw [z]; rfl)
    have eI : cIni s = s := by unfold cIni; rw [if_neg l0]
    have r := M_cs36 hk hd hP hG (by omega) hL hM hN
    unfold cNx
    rw [eI]; exact r
theorem M_jc {τ : St} {q : Int32} {K : Nat} {Q : Int32 → St → Prop} (hk : kd < 5) (hd : DOK n d px py) (hP : PM τ n d px py) (hK : K ≤ 61) (hK1 : (aF (cIt n kd d K).1).length ≤ 1) (hK2 : ∀ j, j < K → 2 ≤ (aF (cIt n kd d j).1).length) (hM : CM τ n (aBeg n)) (h33 : τ.1 0 33 = 0) (hQ : ∀ τ', CM τ' n (cIt n kd d K).1 → fr sJm τ τ' → wp (bd (fX8_keeps N q (nI kd) 1 τ') (fun _ s => some (s.1 0 11, s))) Q) (hN : 3000 ≤ N) : wp (fX8_chain_27 N N q (nI kd) τ) Q := by
  have hn := hd.1
  have hdd := hd.dd
  have key : ∀ m k (ρ : St), k ≤ K → K - k < m → (CMS ρ n (cIt n kd d k) ∧ fr sJm τ ρ) → wp (fX8_chain_27 N m q (nI kd) ρ) Q := by
    refine loop_i (fun m k (ρ : St) => wp (fX8_chain_27 N m q (nI kd) ρ) Q) (fun k ρ => CMS ρ n (cIt n kd d k) ∧ fr sJm τ ρ) K ?_ ?_
    · rintro m ρ ⟨h1, h2⟩
      have g := cIt_ok hk hdd hn K hK2
      have e1 := g.1.1.1.1
      have P1 : PM ρ n d px py := hP.fr h2 (fun c k hc => by unfold sPM at hc; unfold sJm; omega)
      rw [fX8_chain_27, P1.1, h1.1.1.1]
      refine wp_t ?_ (hQ ρ h1.1 h2)
      rcases Nat.eq_zero_or_pos n with z | z
      · have : aK (cIt n kd d K).1 = 0 := by omega
        rw [this, z]; decide
      · rw [show (1 : Int32) = nI 1 from rfl, pk_sub (by omega)]; exact nI_le (by omega) (by omega)
    · rintro m k ρ hkn ⟨h1, h2⟩ ih
      have g := cIt_ok hk hdd hn k (fun j hj => hK2 j (by omega))
      have e1 := g.1.1.1.1
      have P1 : PM ρ n d px py := hP.fr h2 (fun c k hc => by unfold sPM at hc; unfold sJm; omega)
      have hl := hK2 k hkn
      rw [fX8_chain_27, P1.1, h1.1.1.1]
      refine wp_f ?_ (wp_bd (M_cs hk hd P1 g.1 hl h1 hN) (fun _ s hs => ?_))
      · rw [show (1 : Int32) = nI 1 from rfl, pk_sub (by omega)]; exact nI_ge (by omega) (by omega)
      exact ih s ⟨hs.1, fr_tr h2 hs.2⟩
  exact key N 0 τ (by omega) (by omega) ⟨⟨hM, h33, fun j hj => absurd hj (Nat.not_lt_zero j)⟩, fr_rf⟩
end
