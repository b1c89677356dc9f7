/-! the class joins -/
def wcr (σ : St) (p r : Nat) (v t b : Int64) : St := sJ (sJ (sJ (sJ (sJ (sJ σ (80 + p) r v) (80 + r) p v) (100 + p) r t) (100 + r) p t) (120 + p) r b) (120 + r) p b
theorem wc_rd {σ : St} {p r x y : Nat} {v t b : Int64} (hp : p < 20) (hr : r < 20) (hx : x < 20) : (wcr σ p r v t b).2 (80 + x) y = (if (x = p ∧ y = r) ∨ (x = r ∧ y = p) then v else σ.2 (80 + x) y) ∧ (wcr σ p r v t b).2 (100 + x) y = (if (x = p ∧ y = r) ∨ (x = r ∧ y = p) then t else σ.2 (100 + x) y) ∧ (wcr σ p r v t b).2 (120 + x) y = (if (x = p ∧ y = r) ∨ (x = r ∧ y = p) then b else σ.2 (120 + x) y) := by
  unfold wcr
  refine ⟨?_, ?_, ?_⟩
  · rw [sJ_of (by omega), sJ_of (by omega), sJ_of (by omega), sJ_of (by omega)]
    by_cases h1 : x = r ∧ y = p
    · rw [if_pos (Or.inr h1), h1.1, h1.2]; exact sJ_at
    · rw [sJ_of (by omega)]
      by_cases h2 : x = p ∧ y = r
      · rw [if_pos (Or.inl h2), h2.1, h2.2]; exact sJ_at
      · rw [sJ_of (by omega), if_neg (by omega)]
  · rw [sJ_of (by omega), sJ_of (by omega)]
    by_cases h1 : x = r ∧ y = p
    · rw [if_pos (Or.inr h1), h1.1, h1.2]; exact sJ_at
    · rw [sJ_of (by omega)]
      by_cases h2 : x = p ∧ y = r
      · rw [if_pos (Or.inl h2), h2.1, h2.2]; exact sJ_at
      · rw [sJ_of (by omega), sJ_of (by omega), sJ_of (by omega), if_neg (by omega)]
  · by_cases h1 : x = r ∧ y = p
    · rw [if_pos (Or.inr h1), h1.1, h1.2]; exact sJ_at
    · rw [sJ_of (by omega)]
      by_cases h2 : x = p ∧ y = r
      · rw [if_pos (Or.inl h2), h2.1, h2.2]; exact sJ_at
      · rw [sJ_of (by omega), sJ_of (by omega), sJ_of (by omega), sJ_of (by omega), sJ_of (by omega), if_neg (by omega)]
theorem wc_no {σ : St} {p r x y : Nat} {v t b : Int64} (hp : p < 20) (hr : r < 20) (hx : x < 20) (ng : ¬ ((x = p ∧ y = r) ∨ (x = r ∧ y = p))) : (wcr σ p r v t b).2 (80 + x) y = σ.2 (80 + x) y ∧ (wcr σ p r v t b).2 (100 + x) y = σ.2 (100 + x) y ∧ (wcr σ p r v t b).2 (120 + x) y = σ.2 (120 + x) y := by
  have w := wc_rd (σ := σ) (v := v) (t := t) (b := b) (y := y) hp hr hx
  rw [if_neg ng, if_neg ng, if_neg ng] at w
  exact w
def sCo (c _ : Nat) : Prop := 80 ≤ c
theorem wc_fr {σ : St} {p r : Nat} {v t b : Int64} : fr sCo σ (wcr σ p r v t b) := by
  unfold wcr
  refine fr_J (fr_J (fr_J (fr_J (fr_J (fr_J fr_rf ?_) ?_) ?_) ?_) ?_) ?_ <;> (unfold sCo; omega)
theorem VC_bd {kd : Nat} {d : Nat → Nat → Nat} {dep : Nat → Nat} {P Q : Nat → Bool} (hD : ∀ i j, d i j ≤ 2000000) : VC kd d dep P Q ≤ 400000000000000 := by
  unfold VC
  by_cases h4 : kd = 4
  · rw [if_pos h4]
    have := SS_bd (P := P) (Q := Q) (wd_le (dep := dep) hD)
    omega
  · rw [if_neg h4]
    have := fa_le (m := 20) (P := P) (Q := Q) (opk_le kd) hD 20
    omega
section
variable {N : Nat}
theorem X_sc {σ : St} {p r kd v : Nat} {x y : Int32} {d : Nat → Nat → Nat} {dep : Nat → Nat} (hp : p < 20) (hr : r < 20) (h1 : σ.1 15 p = x) (h2 : σ.1 15 r = y) (hx : ∀ i, bt x i = true → i < 20) (hy : ∀ i, bt y i = true → i < 20) (hk1 : σ.1 11 1 = nI kd) (hk : kd < 5) (hv : v = VC kd d dep (bt x) (bt y)) (hin : kd = 3 → σ.2 16 p = lN (SI d (bt x)) ∧ σ.2 16 r = lN (SI d (bt y))) : fX1_setCore N (nI p) (nI r) (lN v) σ = some ((), wcr σ p r (lN v) (lZ (VT kd d dep (bt x) (bt y))) (lN (VB kd (bt x) (bt y)))) := by
  have gp : ib (nI p) 20 = true := ibn hp (by decide)
  have gr : ib (nI r) 20 = true := ibn hr (by decide)
  have fin : fX1_setCore_54 N (nI p) (nI r) (lN v) (nI (nz (bt x))) (nI (nz (bt y))) (lZ (VT kd d dep (bt x) (bt y))) σ = some ((), wcr σ p r (lN v) (lZ (VT kd d dep (bt x) (bt y))) (lN (VB kd (bt x) (bt y)))) := by
    unfold fX1_setCore_54
    rw [hk1, X_bot hk, bd_s]
    simp only [gd_t gp, gd_t gr, nx_r, cl p (by omega), cl r (by omega), Nat.one_mul]
    rfl
  unfold fX1_setCore
  rw [gd_t gp, cl p (by omega), h1, X_bc hx, bd_s, gd_t gr, cl r (by omega), h2, X_bc hy, bd_s, hk1, gd_t gp, gd_t gr]
  by_cases k3 : kd = 3
  · rw [if_pos (by rw [k3]; rfl), (hin k3).1, (hin k3).2, hv, k3, VC_s (Or.inr rfl), X_wt (dep := dep), bd_s]
    rw [hv, k3, VC_s (Or.inr rfl)] at fin
    exact fin
  · rw [if_neg (show ¬ nI kd = (3 : Int32) from fun z => k3 ((nI_eq (b := 3) (by omega) (by omega)).mp z))]
    have e : lN v = lZ (VT kd d dep (bt x) (bt y)) := by rw [VT_n3 k3, hv, lZ_N]
    rw [← e] at fin ⊢
    exact fin
theorem X_setCl {σ : St} {a k x y : Nat} {m : Int32} (hk : k < 19) (hx : x < 2 ^ 31) (hy : y < 2 ^ 31) : fX4_setClusters N a (nI k) (nI x) (nI y) m σ = some ((), sI (sI (sI σ (a + 1) k (nI (min x y))) (a + 2) k (nI (max x y))) (a + 3) k m) := by
  have g : ib (nI k) 19 = true := ibn hk (by decide)
  unfold fX4_setClusters fJ9_min_7cf53 fJ9_max_7cf53
  rw [if_neg (nI_pos (by omega)), if_neg (show ¬ (19 : Int32) ≤ nI k from nI_ge (b := 19) (by omega) (by omega))]
  have e1 : (if nI y < nI x then some (nI y, σ) else some (nI x, σ)) = some (nI (min x y), σ) := by
    by_cases c : y < x
    · rw [if_pos ((nI_ltI hy hx).mpr c), Nat.min_eq_right (by omega)]
    · rw [if_neg (fun z => c ((nI_ltI hy hx).mp z)), Nat.min_eq_left (by omega)]
  have e2 : ∀ ρ : St, (if nI x < nI y then some (nI y, ρ) else some (nI x, ρ)) = some (nI (max x y), ρ) := by
    intro ρ
    by_cases c : x < y
    · rw [if_pos ((nI_ltI hx hy).mpr c), Nat.max_eq_right (by omega)]
    · rw [if_neg (fun z => c ((nI_ltI hx hy).mp z)), Nat.max_eq_left (by omega)]
  rw [e1, bd_s, gd_t g, nx_r, e2, bd_s, gd_t g, nx_r, gd_t g, nx_r, cl k (by omega)]
theorem X_setH {σ : St} {a k : Nat} {T : Int} {B : Nat} (hk : k < 19) (h1 : -4611686018427387904 ≤ T) (h2 : T ≤ 4611686018427387904) (hB : 1 ≤ B) (hB2 : B < 2 ^ 20) (hN : 3000 ≤ N) : fX4_setHeight N a (nI k) (lZ T) (lN B) σ = some ((), sJ (sJ σ (a + 4) k (lZ (rT T B))) (a + 5) k (lN (rB T B))) := by
  have g : ib (nI k) 19 = true := ibn hk (by decide)
  unfold fX4_setHeight
  rw [if_neg (nI_pos (by omega)), if_neg (show ¬ (19 : Int32) ≤ nI k from nI_ge (b := 19) (by omega) (by omega)), X_cd h1 h2 hB hB2 hN, bd_s, (X_low h1 h2 hB hB2).1, bd_s, gd_t g, nx_r, (X_low h1 h2 hB hB2).2, bd_s, gd_t g, nx_r, cl k (by omega)]
/-- the rows that stand -/
def stn (σ : St) (L : List Nat) : Prop := σ.1 11 6 = nI L.length ∧ ∀ a, a < L.length → σ.1 13 a = nI (L.getD a 0)
def sSt (c k : Nat) : Prop := c = 13 ∨ (c = 11 ∧ k = 6)
theorem gD_mem {L : List Nat} {i : Nat} (hi : i < L.length) : L.getD i 0 ∈ L := by
  rw [List.getD_eq_getElem?_getD, List.getElem?_eq_getElem hi]; exact List.getElem_mem hi
theorem gD_take {L : List Nat} {i a : Nat} (h : i < a) : (L.take a).getD i 0 = L.getD i 0 := by
  rw [List.getD_eq_getElem?_getD, List.getD_eq_getElem?_getD, List.getElem?_take_of_lt h]
theorem gD_app1 {L M : List Nat} {i : Nat} (h : i < L.length) : (L ++ M).getD i 0 = L.getD i 0 := by
  rw [List.getD_eq_getElem?_getD, List.getD_eq_getElem?_getD, List.getElem?_append_left h]
theorem gD_last {L : List Nat} {x : Nat} : (L ++ [x]).getD L.length 0 = x := by
  rw [List.getD_eq_getElem?_getD, List.getElem?_append_right (Nat.le_refl _), Nat.sub_self]; rfl
theorem take_sN {L : List Nat} {i : Nat} (hi : i < L.length) : L.take (i + 1) = L.take i ++ [L.getD i 0] := by
  rw [List.take_succ, List.getD_eq_getElem?_getD, List.getElem?_eq_getElem hi]; rfl
theorem rmv_app {L : List Nat} {x p : Nat} : rmv p (L ++ [x]) = if x = p then rmv p L else rmv p L ++ [x] := by
  unfold rmv
  rw [List.filter_append]
  by_cases e : x = p
  · rw [if_pos e, List.filter_cons_of_neg (by simp [e])]; simp
  · rw [if_neg e, List.filter_cons_of_pos (by simp [e])]; simp
theorem X_leave {σ : St} {L : List Nat} {p : Nat} (hs : stn σ L) (hl : L.length ≤ 20) (hL : ∀ r, r ∈ L → r < 20) (hp : p < 20) (hN : 3000 ≤ N) : wp (fX1_leave N (nI p) σ) (fun _ σ' => stn σ' (rmv p L) ∧ fr sSt σ σ') := by
  unfold fX1_leave
  have key : ∀ m a τ, a ≤ L.length → L.length - a < m → ((∀ z, z < (rmv p (L.take a)).length → τ.1 13 z = nI ((rmv p (L.take a)).getD z 0)) ∧ (∀ z, a ≤ z → z < L.length → τ.1 13 z = nI (L.getD z 0)) ∧ (rmv p (L.take a)).length ≤ a ∧ fr (fun c _ => c = 13) σ τ) → wp (fX1_leave_4 N m (nI p) (nI (rmv p (L.take a)).length) (nI a) τ) (fun _ σ' => stn σ' (rmv p L) ∧ fr sSt σ σ') := by
    refine loop_i (fun m a τ => wp (fX1_leave_4 N m (nI p) (nI (rmv p (L.take a)).length) (nI a) τ) (fun _ σ' => stn σ' (rmv p L) ∧ fr sSt σ σ')) (fun a τ => (∀ z, z < (rmv p (L.take a)).length → τ.1 13 z = nI ((rmv p (L.take a)).getD z 0)) ∧ (∀ z, a ≤ z → z < L.length → τ.1 13 z = nI (L.getD z 0)) ∧ (rmv p (L.take a)).length ≤ a ∧ fr (fun c _ => c = 13) σ τ) L.length ?_ ?_
    · intro m τ h
      have e6 : τ.1 11 6 = nI L.length := by rw [(h.2.2.2 11 6 (by omega)).1]; exact hs.1
      rw [fX1_leave_4, e6]
      rw [List.take_of_length_le (Nat.le_refl _)] at h ⊢
      refine wp_t (nI_le (Nat.le_refl _) (by omega)) (wp_nx (wp_some ⟨⟨sI_at, fun a ha => ?_⟩, fr_I (fr_mo h.2.2.2 (fun c k hc => Or.inl hc)) (Or.inr ⟨rfl, rfl⟩)⟩))
      rw [sI_of (by omega)]; exact h.1 a ha
    · intro m a τ ha h ih
      have e6 : τ.1 11 6 = nI L.length := by rw [(h.2.2.2 11 6 (by omega)).1]; exact hs.1
      have ea : τ.1 13 a = nI (L.getD a 0) := h.2.1 a (Nat.le_refl a) ha
      have la : L.getD a 0 < 20 := hL _ (gD_mem ha)
      rw [fX1_leave_4, e6]
      refine wp_f (nI_ge ha (by omega)) (wp_gd (ibn (by omega) (by decide)) ?_)
      rw [cl a (by omega), ea]
      unfold fX1_leave_37
      have i1 : nI a + (1 : Int32) = nI (a + 1) := nI_1 a
      have ih' := ih
      rw [take_sN ha] at ih'
      by_cases e : L.getD a 0 = p
      · have er : rmv p (L.take a ++ [L.getD a 0]) = rmv p (L.take a) := by
          rw [rmv_app, if_pos e]
        rw [er] at ih'
        refine wp_t (by rw [e]) (wp_nx ?_)
        rw [i1]
        exact ih' τ ⟨h.1, fun z hz hz2 => h.2.1 z (by omega) hz2, by omega, h.2.2.2⟩
      · have er : rmv p (L.take a ++ [L.getD a 0]) = rmv p (L.take a) ++ [L.getD a 0] := by
          rw [rmv_app, if_neg e]
        rw [er, List.length_append] at ih'
        have hk := h.2.2.1
        refine wp_f (fun z => e ((nI_eq (by omega) (by omega)).mp z)) (wp_gd (ibn (by omega) (by decide)) (wp_gd (ibn (by omega) (by decide)) (wp_nx (wp_nx (wp_nx ?_)))))
        rw [i1, cl _ (by omega)]
        show wp (fX1_leave_4 N m (nI p) (nI (rmv p (L.take a)).length + 1) (nI (a + 1)) _) _
        rw [nI_1]
        refine ih' _ ⟨fun z hz => ?_, fun z hz hz2 => ?_, by show _ + 1 ≤ _; omega, fr_I h.2.2.2 rfl⟩
        · have hz' : z < (rmv p (L.take a)).length + 1 := hz
          by_cases ez : z = (rmv p (L.take a)).length
          · rw [ez, gD_last]; exact sI_at
          · rw [sI_of (by omega), gD_app1 (by omega)]; exact h.1 z (by omega)
        · rw [sI_of (by omega)]; exact h.2.1 z (by omega) hz2
  exact key N 0 σ (by omega) (by omega) ⟨fun z hz => absurd hz (Nat.not_lt_zero _), fun z _ hz => hs.2 z hz, Nat.zero_le _, fr_rf⟩
end
/-- the class's state tells the joining -/
def CX (σ : St) (n kd : Nat) (d : Nat → Nat → Nat) (A : Aj) (R : Nat → Nat) : Prop := (σ.1 11 0 = nI n ∧ σ.1 11 1 = nI kd ∧ σ.1 11 2 = nI (aS A) ∧ σ.1 22 0 = nI (aK A)) ∧ stn σ ((aF A).map R) ∧ ((∀ c, c ∈ aF A → R c < 20) ∧ ∀ c e, c ∈ aF A → e ∈ aF A → R c = R e → c = e) ∧ (∀ c, c ∈ aF A → σ.1 14 (R c) = nI c ∧ σ.1 15 (R c) = aC A c ∧ (kd = 3 → σ.2 16 (R c) = lN (SI d (bc A c)))) ∧ (∀ c e, c ∈ aF A → e ∈ aF A → c ≠ e → σ.2 (80 + R c) (R e) = lN (uC n kd d A c e) ∧ σ.2 (100 + R c) (R e) = lZ (uT n kd d A c e) ∧ σ.2 (120 + R c) (R e) = lN (uB kd A c e)) ∧ ∀ k, k < aK A → σ.1 23 k = nI (aA A k) ∧ σ.1 24 k = nI (aB A k) ∧ σ.1 25 k = aC A (n + k) ∧ σ.2 26 k = lZ (aT A k) ∧ σ.2 27 k = lN (aO A k)
/-- what joining may change -/
def sJn (c _ : Nat) : Prop := (11 ≤ c ∧ c ≤ 27 ∧ c ≠ 21) ∨ 80 ≤ c
theorem map_rmv {R : Nat → Nat} {F : List Nat} {c : Nat} (h : ∀ e, e ∈ F → R e = R c → e = c) : rmv (R c) (F.map R) = (rmv c F).map R := by
  unfold rmv
  induction F with
  | nil => rfl
  | cons a F ih =>
    have ih := ih (fun e he => h e (List.mem_cons_of_mem _ he))
    rw [List.map_cons]
    by_cases e : a = c
    · rw [List.filter_cons_of_neg (by simp [e]), List.filter_cons_of_neg (by simp [e])]; exact ih
    · have e2 : R a ≠ R c := fun z => e (h a (List.mem_cons_self ..) z)
      rw [List.filter_cons_of_pos (by simp [e2]), List.filter_cons_of_pos (by simp [e]), List.map_cons, ih]
theorem gD_map {R : Nat → Nat} {F : List Nat} {a : Nat} (h : a < F.length) : (F.map R).getD a 0 = R (F.getD a 0) := by
  rw [List.getD_eq_getElem?_getD, List.getD_eq_getElem?_getD, List.getElem?_map, List.getElem?_eq_getElem h]; rfl
