/-! the class joins two clusters -/
theorem gD_inj {G : List Nat} (hp : List.Pairwise (· < ·) G) {a b : Nat} (ha : a < G.length) (hb : b < G.length) (hab : a ≠ b) : G.getD a 0 ≠ G.getD b 0 := by
  rw [List.getD_eq_getElem?_getD, List.getD_eq_getElem?_getD, List.getElem?_eq_getElem ha, List.getElem?_eq_getElem hb]
  show G[a] ≠ G[b]
  rw [List.pairwise_iff_getElem] at hp
  rcases Nat.lt_or_ge a b with z | z
  · have := hp a b ha hb z; omega
  · have := hp b a hb ha (by omega); omega
theorem gD_ex {G : List Nat} {e : Nat} (h : e ∈ G) : ∃ j, j < G.length ∧ G.getD j 0 = e := by
  obtain ⟨j, hj, ej⟩ := List.getElem_of_mem h
  exact ⟨j, hj, by rw [List.getD_eq_getElem?_getD, List.getElem?_eq_getElem hj]; exact ej⟩
section
variable {N n kd : Nat} {d : Nat → Nat → Nat} {A : Aj} {R : Nat → Nat} {C D s : Nat}
/-- the linkages of a row with another -/
abbrev lks (σ : St) (n kd : Nat) (d : Nat → Nat → Nat) (A : Aj) (x y c e : Nat) : Prop := σ.2 (80 + x) y = lN (uC n kd d A c e) ∧ σ.2 (100 + x) y = lZ (uT n kd d A c e) ∧ σ.2 (120 + x) y = lN (uB kd A c e)
theorem X_join139 {σ0 : St} (hk : kd < 5) (hd : DD d) (hI : I1 n A) (h2 : I2 n A) (hC : C ∈ aF A) (hD : D ∈ aF A) (hne : C ≠ D) (hR : ∀ c, c ∈ aF A → R c < 20) (hRi : ∀ c e, c ∈ aF A → e ∈ aF A → R c = R e → c = e)
    (hst : stn σ0 ((rmv D (rmv C (aF A))).map R)) (h11 : σ0.1 11 1 = nI kd) (h15 : σ0.1 15 (R C) = aC (aJoin n kd d A C D s) (n + aK A)) (h15e : ∀ e, e ∈ rmv D (rmv C (aF A)) → σ0.1 15 (R e) = aC A e)
    (h16 : kd = 3 → σ0.2 16 (R C) = lN (SI d (bc (aJoin n kd d A C D s) (n + aK A)))) (h16e : kd = 3 → ∀ e, e ∈ rmv D (rmv C (aF A)) → σ0.2 16 (R e) = lN (SI d (bc A e)))
    (hcC : ∀ e, e ∈ rmv D (rmv C (aF A)) → σ0.2 (80 + R C) (R e) = lN (uC n kd d A C e)) (hcD : ∀ e, e ∈ rmv D (rmv C (aF A)) → σ0.2 (80 + R D) (R e) = lN (uC n kd d A D e)) (hN : 3000 ≤ N) :
    wp (fX1_join_139 N N (nI (R C)) (nI (R D)) 0 σ0) (fun _ σ' => stn σ' ((rmv D (rmv C (aF A))).map R ++ [R C]) ∧ fr (fun c k => sCo c k ∨ sSt c k) σ0 σ' ∧ (∀ e, e ∈ rmv D (rmv C (aF A)) → lks σ' n kd d (aJoin n kd d A C D s) (R C) (R e) (n + aK A) e ∧ lks σ' n kd d (aJoin n kd d A C D s) (R e) (R C) (n + aK A) e) ∧ ∀ x y, x < 20 → x ≠ R C → y ≠ R C → σ'.2 (80 + x) y = σ0.2 (80 + x) y ∧ σ'.2 (100 + x) y = σ0.2 (100 + x) y ∧ σ'.2 (120 + x) y = σ0.2 (120 + x) y) := by
  have hpw : List.Pairwise (· < ·) (rmv D (rmv C (aF A))) := rmv_pw (rmv_pw hI.2.2.1)
  have hmem : ∀ e, e ∈ rmv D (rmv C (aF A)) → e ∈ aF A ∧ e ≠ C ∧ e ≠ D := fun e he => ⟨(rmv_mem.mp (rmv_mem.mp he).1).1, (rmv_mem.mp (rmv_mem.mp he).1).2, (rmv_mem.mp he).2⟩
  have l1 := rmv_len hI.2.2.1 hC
  have l2 := rmv_len (rmv_pw (c := C) hI.2.2.1) (rmv_mem.mpr ⟨hD, fun e => hne e.symm⟩)
  have ln := hI.1
  have hn := hI.2.1
  generalize hG : rmv D (rmv C (aF A)) = G at *
  have hGl : G.length + 2 ≤ 20 := by omega
  have hp20 := hR C hC
  have hq20 := hR D hD
  have hpq : R D ≠ R C := fun z => hne (hRi C D hC hD z.symm)
  have hst1 : σ0.1 11 6 = nI G.length := by rw [hst.1, List.length_map]
  have hst2 : ∀ a, a < G.length → σ0.1 13 a = nI (R (G.getD a 0)) := fun a ha => by rw [hst.2 a (by rw [List.length_map]; exact ha), gD_map ha]
  have key : ∀ m a τ, a ≤ G.length → G.length - a < m → (fr sCo σ0 τ ∧ (∀ j, j < a → lks τ n kd d (aJoin n kd d A C D s) (R C) (R (G.getD j 0)) (n + aK A) (G.getD j 0) ∧ lks τ n kd d (aJoin n kd d A C D s) (R (G.getD j 0)) (R C) (n + aK A) (G.getD j 0)) ∧ (∀ j, a ≤ j → j < G.length → τ.2 (80 + R C) (R (G.getD j 0)) = lN (uC n kd d A C (G.getD j 0))) ∧ ∀ x y, x < 20 → x ≠ R C → y ≠ R C → τ.2 (80 + x) y = σ0.2 (80 + x) y ∧ τ.2 (100 + x) y = σ0.2 (100 + x) y ∧ τ.2 (120 + x) y = σ0.2 (120 + x) y) → wp (fX1_join_139 N m (nI (R C)) (nI (R D)) (nI a) τ) (fun _ σ' => stn σ' (G.map R ++ [R C]) ∧ fr (fun c k => sCo c k ∨ sSt c k) σ0 σ' ∧ (∀ e, e ∈ G → lks σ' n kd d (aJoin n kd d A C D s) (R C) (R e) (n + aK A) e ∧ lks σ' n kd d (aJoin n kd d A C D s) (R e) (R C) (n + aK A) e) ∧ ∀ x y, x < 20 → x ≠ R C → y ≠ R C → σ'.2 (80 + x) y = σ0.2 (80 + x) y ∧ σ'.2 (100 + x) y = σ0.2 (100 + x) y ∧ σ'.2 (120 + x) y = σ0.2 (120 + x) y) := by
    refine loop_i (fun m a τ => wp (fX1_join_139 N m (nI (R C)) (nI (R D)) (nI a) τ) _) (fun a τ => fr sCo σ0 τ ∧ (∀ j, j < a → lks τ n kd d (aJoin n kd d A C D s) (R C) (R (G.getD j 0)) (n + aK A) (G.getD j 0) ∧ lks τ n kd d (aJoin n kd d A C D s) (R (G.getD j 0)) (R C) (n + aK A) (G.getD j 0)) ∧ (∀ j, a ≤ j → j < G.length → τ.2 (80 + R C) (R (G.getD j 0)) = lN (uC n kd d A C (G.getD j 0))) ∧ ∀ x y, x < 20 → x ≠ R C → y ≠ R C → τ.2 (80 + x) y = σ0.2 (80 + x) y ∧ τ.2 (100 + x) y = σ0.2 (100 + x) y ∧ τ.2 (120 + x) y = σ0.2 (120 + x) y) G.length ?_ ?_
    · intro m τ h
      have e6 : τ.1 11 6 = nI G.length := by rw [(h.1 11 6 (by unfold sCo; omega)).1]; exact hst1
      rw [fX1_join_139, e6]
      refine wp_t (nI_le (Nat.le_refl _) (by omega)) (wp_gd (ibn (by omega) (by decide)) (wp_nx (wp_nx (wp_some ⟨⟨?_, fun a ha => ?_⟩, ?_, fun e he => ?_, h.2.2.2⟩))))
      · rw [sI_at, sI_of (by omega), e6, List.length_append, List.length_map]
        show nI G.length + 1 = _
        rw [nI_1]; rfl
      · rw [List.length_append, List.length_map] at ha
        have ha' : a < G.length + 1 := ha
        rw [sI_of (by omega), cl _ (by omega)]
        by_cases e : a = G.length
        · subst e
          rw [sI_at]
          have := gD_last (L := G.map R) (x := R C)
          rw [List.length_map] at this
          rw [this]
        · rw [sI_of (by omega), gD_app1 (by rw [List.length_map]; omega), gD_map (by omega), (h.1 13 a (by unfold sCo; omega)).1]
          exact hst2 a (by omega)
      · refine fr_I (fr_I (fr_mo h.1 (fun c k hc => Or.inl hc)) (Or.inr (Or.inl rfl))) (Or.inr (Or.inr ⟨rfl, rfl⟩))
      · obtain ⟨j, hj, rfl⟩ := gD_ex he
        exact h.2.1 j hj
    · intro m a τ ha h ih
      have heG := gD_mem ha
      have hm := hmem _ heG
      generalize he : G.getD a 0 = e at *
      have hrp : R e ≠ R C := fun z => hm.2.1 (hRi e C hm.1 hC z)
      have hr20 := hR e hm.1
      have e6 : τ.1 11 6 = nI G.length := by rw [(h.1 11 6 (by unfold sCo; omega)).1]; exact hst1
      have ea : τ.1 13 a = nI (R e) := by rw [(h.1 13 a (by unfold sCo; omega)).1, hst2 a ha, he]
      rw [fX1_join_139, e6]
      refine wp_f (nI_ge ha (by omega)) (wp_gd (ibn (by omega) (by decide)) (wp_nx ?_))
      rw [cl a (by omega), ea]
      refine wp_gd (ibn hp20 (by decide)) (wp_gd (ibn hr20 (by decide)) (wp_gd (ibn hq20 (by decide)) (wp_gd (ibn hr20 (by decide)) ?_)))
      have r1 : τ.2 (80 + R C) (R e) = lN (uC n kd d A C e) := by
        have := h.2.2.1 a (Nat.le_refl a) ha
        rw [he] at this; exact this
      have r2 : τ.2 (80 + R D) (R e) = lN (uC n kd d A D e) := by rw [(h.2.2.2 (R D) (R e) hq20 hpq hrp).1]; exact hcD e heG
      have b1 := VC_bd (kd := kd) (dep := dpt n A) (P := bc A C) (Q := bc A e) hd.1
      have b2 := VC_bd (kd := kd) (dep := dpt n A) (P := bc A D) (Q := bc A e) hd.1
      rw [cl (R C) (by omega), cl (R D) (by omega), cl (R e) (by omega), Nat.one_mul, Nat.one_mul, r1, r2, (h.1 11 1 (by unfold sCo; omega)).1, h11, X_car hk (Nat.lt_of_le_of_lt b1 (by decide)) (Nat.lt_of_le_of_lt b2 (by decide)), bd_s]
      have hI' : I1 n (aJoin n kd d A C D s) := hI.join hC hD hne
      have me' : e ∈ aF (aJoin n kd d A C D s) := jF.mpr (Or.inl hm)
      have mn' : (n + aK A) ∈ aF (aJoin n kd d A C D s) := jF.mpr (Or.inr rfl)
      have ece : aC (aJoin n kd d A C D s) e = aC A e := if_neg (mem_lt hI hm.1)
      have sc := X_sc (N := N) (σ := τ) (p := R C) (r := R e) (kd := kd) (v := opk kd (uC n kd d A C e) (uC n kd d A D e)) (x := aC (aJoin n kd d A C D s) (n + aK A)) (y := aC (aJoin n kd d A C D s) e) (d := d) (dep := dpt n (aJoin n kd d A C D s)) hp20 hr20 (by rw [(h.1 15 _ (by unfold sCo; omega)).1]; exact h15) (by rw [(h.1 15 _ (by unfold sCo; omega)).1, ece]; exact h15e e heG) (hI'.s20 mn') (hI'.s20 me') (by rw [(h.1 11 1 (by unfold sCo; omega)).1]; exact h11) hk (jC_join hk hI h2 hC hD hne hm.1 hm.2.1 hm.2.2).symm (fun k3 => ⟨by rw [(h.1 16 _ (by unfold sCo; omega)).2]; exact h16 k3, by rw [(h.1 16 _ (by unfold sCo; omega)).2, ece]; exact h16e k3 e heG⟩)
      rw [sc, bd_s]
      refine wp_nx ?_
      show wp (fX1_join_139 N m (nI (R C)) (nI (R D)) (nI a + 1) _) _
      rw [nI_1]
      have vj : opk kd (uC n kd d A C e) (uC n kd d A D e) = uC n kd d (aJoin n kd d A C D s) (n + aK A) e := (jC_join hk hI h2 hC hD hne hm.1 hm.2.1 hm.2.2).symm
      rw [vj]
      refine ih _ ⟨fr_tr h.1 wc_fr, fun j hj => ?_, fun j hj hj2 => ?_, fun x y hx hx1 hy1 => ?_⟩
      · by_cases ej : j = a
        · subst ej
          rw [he]
          have w1 := wc_rd (σ := τ) (p := R C) (r := R e) (x := R C) (y := R e) (v := lN (uC n kd d (aJoin n kd d A C D s) (n + aK A) e)) (t := lZ (uT n kd d (aJoin n kd d A C D s) (n + aK A) e)) (b := lN (uB kd (aJoin n kd d A C D s) (n + aK A) e)) hp20 hr20 hp20
          have w2 := wc_rd (σ := τ) (p := R C) (r := R e) (x := R e) (y := R C) (v := lN (uC n kd d (aJoin n kd d A C D s) (n + aK A) e)) (t := lZ (uT n kd d (aJoin n kd d A C D s) (n + aK A) e)) (b := lN (uB kd (aJoin n kd d A C D s) (n + aK A) e)) hp20 hr20 hr20
          rw [if_pos (Or.inl ⟨rfl, rfl⟩), if_pos (Or.inl ⟨rfl, rfl⟩), if_pos (Or.inl ⟨rfl, rfl⟩)] at w1
          rw [if_pos (Or.inr ⟨rfl, rfl⟩), if_pos (Or.inr ⟨rfl, rfl⟩), if_pos (Or.inr ⟨rfl, rfl⟩)] at w2
          exact ⟨w1, w2⟩
        · have hj' : j < a := by omega
          have old := h.2.1 j hj'
          have hm' := hmem _ (gD_mem (show j < G.length by omega))
          have hne' : G.getD j 0 ≠ e := by rw [← he]; exact gD_inj hpw (by omega) ha (by omega)
          have hre : R (G.getD j 0) ≠ R e := fun z => hne' (hRi _ _ hm'.1 hm.1 z)
          have hrc : R (G.getD j 0) ≠ R C := fun z => hm'.2.1 (hRi _ _ hm'.1 hC z)
          have hj20 := hR _ hm'.1
          have ng1 : ¬ ((R C = R C ∧ R (G.getD j 0) = R e) ∨ (R C = R e ∧ R (G.getD j 0) = R C)) := by omega
          have ng2 : ¬ ((R (G.getD j 0) = R C ∧ R C = R e) ∨ (R (G.getD j 0) = R e ∧ R C = R C)) := by omega
          have w1 := fun v t b => wc_no (σ := τ) (p := R C) (r := R e) (x := R C) (y := R (G.getD j 0)) (v := v) (t := t) (b := b) hp20 hr20 hp20 ng1
          have w2 := fun v t b => wc_no (σ := τ) (p := R C) (r := R e) (x := R (G.getD j 0)) (y := R C) (v := v) (t := t) (b := b) hp20 hr20 hj20 ng2
          exact ⟨⟨(w1 _ _ _).1.trans old.1.1, (w1 _ _ _).2.1.trans old.1.2.1, (w1 _ _ _).2.2.trans old.1.2.2⟩, ⟨(w2 _ _ _).1.trans old.2.1, (w2 _ _ _).2.1.trans old.2.2.1, (w2 _ _ _).2.2.trans old.2.2.2⟩⟩
      · have hm' := hmem _ (gD_mem hj2)
        have hne' : G.getD j 0 ≠ e := by rw [← he]; exact gD_inj hpw hj2 ha (by omega)
        have hre : R (G.getD j 0) ≠ R e := fun z => hne' (hRi _ _ hm'.1 hm.1 z)
        have ng1 : ¬ ((R C = R C ∧ R (G.getD j 0) = R e) ∨ (R C = R e ∧ R (G.getD j 0) = R C)) := by omega
        rw [(wc_rd hp20 hr20 hp20).1, if_neg ng1]
        exact h.2.2.1 j (by omega) hj2
      · have ng : ¬ ((x = R C ∧ y = R e) ∨ (x = R e ∧ y = R C)) := by omega
        have w := fun v t b => wc_no (σ := τ) (p := R C) (r := R e) (x := x) (y := y) (v := v) (t := t) (b := b) hp20 hr20 hx ng
        have o := h.2.2.2 x y hx hx1 hy1
        exact ⟨(w _ _ _).1.trans o.1, (w _ _ _).2.1.trans o.2.1, (w _ _ _).2.2.trans o.2.2⟩
  exact key N 0 σ0 (by omega) (by omega) ⟨fr_rf, fun j hj => absurd hj (Nat.not_lt_zero _), fun j _ hj => hcC _ (gD_mem hj), fun x y _ _ _ => ⟨rfl, rfl, rfl⟩⟩
end
