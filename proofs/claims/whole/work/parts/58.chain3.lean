/-! a turn along a chain -/
section
variable {N n kd : Nat} {d : Nat → Nat → Nat} {px py : Nat → Int32} {R : Nat → Nat}
theorem CXfr {S : Nat → Nat → Prop} {σ σ' : St} {A : Aj} (h : CX σ n kd d A R) (hf : fr S σ σ') (hs : ∀ c k, ((c = 11 ∧ k < 14) ∨ (13 ≤ c ∧ c ≤ 16) ∨ (22 ≤ c ∧ c ≤ 27) ∨ 80 ≤ c) → ¬ S c k) : CX σ' n kd d A R := by
  have e : ∀ c k, ((c = 11 ∧ k < 14) ∨ (13 ≤ c ∧ c ≤ 16) ∨ (22 ≤ c ∧ c ≤ 27) ∨ 80 ≤ c) → σ'.1 c k = σ.1 c k ∧ σ'.2 c k = σ.2 c k := fun c k hc => hf c k (hs c k hc)
  obtain ⟨⟨x0, x1, x2, x22⟩, ⟨y1, y2⟩, xR, x14, xl, xm⟩ := h
  refine ⟨⟨?_, ?_, ?_, ?_⟩, ⟨?_, fun a ha => ?_⟩, xR, fun c hc => ?_, fun c e' hc he hce => ?_, fun k hk => ?_⟩
  · rw [(e _ _ (by omega)).1]; exact x0
  · rw [(e _ _ (by omega)).1]; exact x1
  · rw [(e _ _ (by omega)).1]; exact x2
  · rw [(e _ _ (by omega)).1]; exact x22
  · rw [(e _ _ (by omega)).1]; exact y1
  · rw [(e _ _ (by omega)).1]; exact y2 a ha
  · rw [(e _ _ (by omega)).1, (e _ _ (by omega)).1, (e _ _ (by omega)).2]; exact x14 c hc
  · rw [(e _ _ (by omega)).2, (e _ _ (by omega)).2, (e _ _ (by omega)).2]; exact xl c e' hc he hce
  · rw [(e _ _ (by omega)).1, (e _ _ (by omega)).1, (e _ _ (by omega)).1, (e _ _ (by omega)).2, (e _ _ (by omega)).2]; exact xm k hk
theorem X_fc24 {σ : St} {s : Cs} (hk : kd < 5) (hd : DD d) (hG : CG n kd d s) (hX : CXS σ n kd d s R) (hl : 1 ≤ s.2.2) (hL : 2 ≤ (aF s.1).length) (hN : 3000 ≤ N) : wp (fX1_followChain_24 N σ) (fun _ σ' => ∃ R', CXS σ' n kd d (cStp n kd d s (cPk n kd d s).1 (cPk n kd d s).2) R' ∧ fr sJn σ σ') := by
  obtain ⟨A, S, l⟩ := s
  obtain ⟨hA, hC⟩ := hG
  obtain ⟨hX, hD, hS⟩ := hX
  simp only at hA hC hX hD hS hl hL
  have hI := hA.1
  have hlen := CI.len hI hC
  have hl20 : (aF A).length ≤ 20 := by have := hI.1; have := hI.2.1; omega
  have e1 : nI l - (1 : Int32) = nI (l - 1) := pk_sub hl
  have xR := hX.2.2.1.1
  have xRi := hX.2.2.1.2
  have hx := hC.1 (l - 1) (by omega)
  unfold fX1_followChain_24
  rw [hD, e1]
  refine wp_gd (ibn (by omega) (by decide)) (wp_nx ?_)
  rw [cl _ (by omega), hS (l - 1) (by omega)]
  have fin : ∀ y0, ((l < 2 ∧ y0 = -1) ∨ (2 ≤ l ∧ S (l - 2) ∈ aF A ∧ y0 = nI (R (S (l - 2))))) → wp (fX1_followChain_59 N (nI (R (S (l - 1)))) y0 σ) (fun _ σ' => ∃ R', CXS σ' n kd d (cStp n kd d (A, S, l) (cPk n kd d (A, S, l)).1 (cPk n kd d (A, S, l)).2) R' ∧ fr sJn σ σ') := by
    intro y0 hb
    unfold fX1_followChain_59
    refine wp_bd (X_near hk hd hA hX hx hL hb hN) (fun r σ1 hr => ?_)
    obtain ⟨e, t, hNr, rfl, hX1, hf1⟩ := hr
    have he := hNr.1
    have hu := NrS.u (s := (A, S, l)) (show NrS n kd d (A, S, l) e t from hNr) (cPk_ok ⟨hA, hC⟩ hl hL)
    rw [← hu.1, ← hu.2]
    have d1 : σ1.1 11 14 = nI l := by rw [(hf1 11 14 (by omega)).1]; exact hD
    have s1 : ∀ j, j < l → σ1.1 20 j = nI (R (S j)) := fun j hj => by rw [(hf1 20 j (by omega)).1]; exact hS j hj
    refine wp_f (nI_m1 (by have := xR e he.1; omega)) ?_
    have beq : nI (R e) = y0 ↔ bel S l e := by
      rcases hb with ⟨h1, rfl⟩ | ⟨h1, h2, rfl⟩
      · exact ⟨fun z => absurd z (nI_m1 (by have := xR e he.1; omega)), fun z => by have := z.1; omega⟩
      · rw [nI_eq (by have := xR e he.1; omega) (by have := xR _ h2; omega)]
        exact ⟨fun z => ⟨h1, xRi _ _ he.1 h2 z⟩, fun z => by rw [z.2]⟩
    refine wp_i (fun c => wp_nx ?_) (fun c => ?_)
    · have hbe := beq.mp c
      have h2 := hbe.1
      have hbm := hC.1 (l - 2) (by omega)
      have y0e : y0 = nI (R (S (l - 2))) := by rw [← c, hbe.2]
      rw [d1, y0e, show (2 : Int32) = nI 2 from rfl, pk_sub (by omega)]
      have X2 : CX (sI σ1 11 14 (nI (l - 2))) n kd d (aTie A (aS A + bN t)) R := CXfr hX1 (S := fun c k => c = 11 ∧ k = 14) (fr_I fr_rf ⟨rfl, rfl⟩) (fun c k hc => by omega)
      refine wp_bd (X_join (A := aTie A (aS A + bN t)) hk hd hA X2 hbm hx (hC.2.1 (l - 2) (l - 1) (by omega) (by omega)) hN) (fun _ σ2 h2' => wp_some ⟨rJ R (n + aK A) (S (l - 2)), ?_, ?_⟩)
      · unfold cStp
        rw [if_pos (show bel (A, S, l).2.1 (A, S, l).2.2 e from hbe)]
        refine ⟨h2'.1, ?_, fun j hj => ?_⟩
        · rw [(h2'.2 11 14 (by unfold sJj; omega)).1]; exact sI_at
        · have hj' : j < l - 2 := hj
          show σ2.1 20 j = nI (rJ R (n + aK A) (S (l - 2)) (S j))
          rw [(h2'.2 20 j (by unfold sJj; omega)).1, sI_of (by omega), s1 j (by omega)]
          have : rJ R (n + aK A) (S (l - 2)) (S j) = R (S j) := if_neg (mem_lt hI (hC.1 j (by omega)))
          rw [this]
      · refine fr_tr (fr_mo hf1 (fun c k h => ?_)) (fr_tr (fr_I fr_rf ?_) (fr_mo h2'.2 (fun c k h => ?_)))
        · unfold sJn; omega
        · unfold sJn; omega
        · unfold sJj at h; unfold sJn; omega
    · have hbe : ¬ bel S l e := fun z => c (beq.mpr z)
      have hp := CI.push hk hd hA hC hl hNr hbe
      have hl2 := CI.len hI hp
      rw [d1]
      refine wp_f (show ¬ (20 : Int32) ≤ nI l from nI_ge (b := 20) (by omega) (by omega)) (wp_gd (ibn (by omega) (by decide)) (wp_nx (wp_nx (wp_some ⟨R, ?_, ?_⟩))))
      · unfold cStp
        rw [if_neg (show ¬ bel (A, S, l).2.1 (A, S, l).2.2 e from hbe)]
        refine ⟨CXfr hX1 (S := fun c k => c = 20 ∨ (c = 11 ∧ k = 14)) (fr_I (fr_I fr_rf (Or.inl rfl)) (Or.inr ⟨rfl, rfl⟩)) (fun c k hc => by omega), ?_, fun j hj => ?_⟩
        · rw [sI_at, sI_of (by omega), d1]; exact nI_1 l
        · have hj' : j < l + 1 := hj
          rw [sI_of (by omega), cl l (by omega)]
          show _ = nI (R (if j = l then e else S j))
          by_cases ej : j = l
          · subst ej; rw [if_pos rfl]; exact sI_at
          · rw [if_neg ej, sI_of (by omega)]; exact s1 j (by omega)
      · refine fr_tr (fr_mo hf1 (fun c k h => ?_)) (fr_I (fr_I fr_rf ?_) ?_) <;> (unfold sJn; omega)
  refine wp_i (fun c => ?_) (fun c => ?_)
  · have : l ≤ 1 := (nI_leI (b := 1) (by omega) (by omega)).mp c
    exact fin (-1) (Or.inl ⟨by omega, rfl⟩)
  · have h2 : 2 ≤ l := by
      rcases Nat.lt_or_ge l 2 with z | z
      · exact absurd (nI_le (b := 1) (by omega) (by omega)) c
      · exact z
    rw [show (2 : Int32) = nI 2 from rfl, pk_sub h2]
    refine wp_gd (ibn (by omega) (by decide)) ?_
    rw [cl _ (by omega), hS (l - 2) (by omega)]
    exact fin _ (Or.inr ⟨h2, hC.1 _ (by omega), rfl⟩)
theorem X_fc {σ : St} {s : Cs} (hk : kd < 5) (hd : DD d) (hG : CG n kd d s) (hX : CXS σ n kd d s R) (hL : 2 ≤ (aF s.1).length) (hN : 3000 ≤ N) : wp (fX1_followChain N σ) (fun _ σ' => ∃ R', CXS σ' n kd d (cNx n kd d s) R' ∧ fr sJn σ σ') := by
  obtain ⟨g1, g2, g3, g4⟩ := CG_ini hG (by omega)
  have hL' : 2 ≤ (aF (cIni s).1).length := by rw [g3]; exact hL
  have hl20 : s.2.2 ≤ 20 := by have := CI.len hG.1.1 hG.2; have := hG.1.1.1; have := hG.1.1.2.1; omega
  unfold fX1_followChain
  rw [hX.2.1]
  refine wp_i (fun c => ?_) (fun c => ?_)
  · have l0 : s.2.2 = 0 := (nI_eq (b := 0) (by omega) (by omega)).mp c
    refine wp_gd (by decide) (wp_gd (by decide) (wp_nx (wp_nx ?_)))
    have e13 : σ.1 13 (0 : Int32).toNatClampNeg = nI (R ((aF s.1).getD 0 0)) := by
      show σ.1 13 0 = _
      rw [hX.1.2.1.2 0 (by rw [List.length_map]; omega), gD_map (by omega)]
    rw [e13]
    have f1 : fr (fun c k => c = 20 ∨ (c = 11 ∧ k = 14)) σ (sI (sI σ 20 (0 : Int32).toNatClampNeg (nI (R ((aF s.1).getD 0 0)))) 11 14 1) := fr_I (fr_I fr_rf (Or.inl rfl)) (Or.inr ⟨rfl, rfl⟩)
    have eI : cIni s = (s.1, (fun j => if j = 0 then (aF s.1).getD 0 0 else s.2.1 j), 1) := by unfold cIni; rw [if_pos l0]
    have X1 : CXS (sI (sI σ 20 (0 : Int32).toNatClampNeg (nI (R ((aF s.1).getD 0 0)))) 11 14 1) n kd d (cIni s) R := by
      rw [eI]
      refine ⟨CXfr hX.1 f1 (fun c k hc => by omega), sI_at, fun j hj => ?_⟩
      have hj' : j < 1 := hj
      have : j = 0 := by omega
      subst this
      rw [sI_of (by omega)]; exact sI_at
    refine wp_mono (X_fc24 hk hd g1 X1 g2 hL' hN) (fun _ σ' hh => ?_)
    obtain ⟨R', a1, a2⟩ := hh
    exact ⟨R', a1, fr_tr (fr_mo f1 (fun c k h => by unfold sJn; omega)) a2⟩
  · have l0 : ¬ s.2.2 = 0 := fun z => c (by rw [z]; rfl)
    have eI : cIni s = s := by unfold cIni; rw [if_neg l0]
    have r := X_fc24 hk hd hG hX (by omega) hL hN
    unfold cNx
    rw [eI]; exact r
theorem X_jc {σ : St} {K : Nat} (hk : kd < 5) (hd : DD d) (hn : n ≤ 20) (hK : K ≤ 61) (hK1 : (aF (cIt n kd d K).1).length ≤ 1) (hK2 : ∀ j, j < K → 2 ≤ (aF (cIt n kd d j).1).length) (hX : CX σ n kd d (aBeg n) R) (h14 : σ.1 11 14 = 0) (hN : 3000 ≤ N) : wp (fX1_joinAlongChains N σ) (fun _ σ' => ∃ R', CX σ' n kd d (cIt n kd d K).1 R' ∧ fr sJn σ σ') := by
  unfold fX1_joinAlongChains
  have key : ∀ m k (ρ : St), k ≤ K → K - k < m → (∃ R', CXS ρ n kd d (cIt n kd d k) R' ∧ fr sJn σ ρ) → wp (fX1_joinAlongChains_2 N m (nI k) ρ) (fun _ σ' => ∃ R', CX σ' n kd d (cIt n kd d K).1 R' ∧ fr sJn σ σ') := by
    refine loop_i (fun m k (ρ : St) => wp (fX1_joinAlongChains_2 N m (nI k) ρ) _) (fun k ρ => ∃ R', CXS ρ n kd d (cIt n kd d k) R' ∧ fr sJn σ ρ) K ?_ ?_
    · rintro m ρ ⟨R', h1, h2⟩
      have e6 : ρ.1 11 6 = nI (aF (cIt n kd d K).1).length := by rw [h1.1.2.1.1, List.length_map]
      rw [fX1_joinAlongChains_2, e6]
      exact wp_i (fun _ => wp_some ⟨R', h1.1, h2⟩) (fun _ => wp_t (nI_le (b := 1) hK1 (by omega)) (wp_some ⟨R', h1.1, h2⟩))
    · rintro m k ρ hkn ⟨R', h1, h2⟩ ih
      have g := cIt_ok hk hd hn k (fun j hj => hK2 j (by omega))
      have e6 : ρ.1 11 6 = nI (aF (cIt n kd d k).1).length := by rw [h1.1.2.1.1, List.length_map]
      have hl := hK2 k hkn
      have hl2 : (aF (cIt n kd d k).1).length ≤ 20 := by have := g.1.1.1.1; omega
      rw [fX1_joinAlongChains_2, e6]
      refine wp_f (nI_ge (b := 1000) (by omega) (by omega)) (wp_f (nI_ge (a := 1) (by omega) (by omega)) (wp_bd (X_fc hk hd g.1 h1 hl hN) (fun _ s hs => wp_nx ?_)))
      obtain ⟨R2, hC, hf⟩ := hs
      show wp (fX1_joinAlongChains_2 N m (nI k + 1) s) _
      rw [nI_1]
      exact ih s ⟨R2, hC, fr_tr h2 hf⟩
  exact key N 0 σ (by omega) (by omega) ⟨R, ⟨hX, h14, fun j hj => absurd hj (Nat.not_lt_zero j)⟩, fr_rf⟩
end
