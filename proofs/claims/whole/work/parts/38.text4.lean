/-! text and order alike -/
abbrev rt (t : Td) : Nat := 2 * tN t - 2
noncomputable def txt (t : Td) : List Int32 := (if tN t = 0 then [] else tx t 40 (rt t)) ++ [chn 59]
theorem pcp_up (P : Nat → Bool) : ∀ k m, pcp P k ≤ pcp P (k + m)
  | _, 0 => Nat.le_refl _
  | k, m + 1 => Nat.le_trans (pcp_up P k m) (by show _ ≤ pcp P (k + m) + _; omega)
theorem pcp_all {P : Nat → Bool} : ∀ n, (∀ i, i < n → P i = true) → pcp P n = n
  | 0, _ => rfl
  | n + 1, h => by
    have ih := pcp_all n (fun i hi => h i (by omega))
    show pcp P n + _ = n + 1
    rw [ih, if_pos (h n (by omega))]
theorem rt_vc {t : Td} (h : 1 ≤ tN t) : vc t (rt t) := by unfold vc rt; omega
theorem rt_sz {t : Td} (hT : TP t) (h : 1 ≤ tN t) : tN t ≤ sz t (rt t) := by
  have h20 := hT.1.1
  by_cases h1 : tN t = 1
  · have e : rt t = 0 := by unfold rt; omega
    rw [e, sz_leaf hT (by omega)]; omega
  · unfold sz
    have e : pcp (cbt t (rt t)) (tN t) = tN t := by
      refine pcp_all _ (fun i hi => ?_)
      unfold cbt rt
      rw [if_neg (by omega), show 2 * tN t - 2 - tN t = tN t - 2 by omega]
      exact hT.2.2.2.2.2 (by omega) i hi
    have := pcp_up (cbt t (rt t)) (tN t) (20 - tN t)
    rw [e, show tN t + (20 - tN t) = 20 by omega] at this
    exact this
theorem sz_20 (t : Td) (c : Nat) : sz t c ≤ 20 := pcp_le _ _
theorem txt_ok {t : Td} (hT : TP t) : LOK (txt t) := by
  unfold txt
  refine ⟨?_, fun b hb => ?_⟩
  · rw [List.length_append]
    by_cases h : tN t = 0
    · rw [if_pos h]; decide
    · rw [if_neg h]
      have h20 := hT.1.1
      have := tx_len hT 40 (rt t) (by unfold rt; omega) (rt_vc (by omega))
      have := sz_20 t (rt t)
      show _ + 1 ≤ 2400; omega
  · rcases List.mem_append.mp hb with hb | hb
    · by_cases h : tN t = 0
      · rw [if_pos h] at hb; exact absurd hb List.not_mem_nil
      · rw [if_neg h] at hb; exact tx_nb hb
    · rw [List.mem_singleton.mp hb]; exact nb2 _
def sTZ (c k : Nat) : Prop := sOM c k ∨ c = 28 ∨ c = 29
section
variable {N : Nat}
theorem X_last {σ : St} {q : Nat} {t : Td} (hX : SX σ q t) (h : 1 ≤ tN t) : fX6_lastCluster N q σ = some (nI (rt t), σ) := by
  unfold fX6_lastCluster
  rw [hX.1.2.2.1, hX.1.2.2.2.2.2, nI_add, show (1 : Int32) = nI 1 from rfl, pk_sub (by omega)]
  unfold rt
  rw [show tN t + (tN t - 1) - 1 = 2 * tN t - 2 by omega]
theorem X_text {σ : St} {q : Nat} {t : Td} (hq : q < 4) (hT : TP t) (hX : SX σ q t) (hN : 3000 ≤ N) : wp (fX7_text N (nI q) σ) (fun r σ' => r = nI (txt t).length ∧ OX σ' (txt t) ∧ fr sO σ σ') := by
  have h20 := hT.1.1
  have mo : ∀ {ρ ρ2 : St}, fr (fun c _ => c = 7 ∨ c = 7 + 1) ρ ρ2 → fr sO ρ ρ2 := fun h => fr_mo h (fun c k hc => hc)
  have sx : ∀ {ρ ρ2 : St}, SX ρ q t → fr sO ρ ρ2 → SX ρ2 q t := fun hX hf => hX.fr hf (fun c k h => by unfold sS at h; unfold sO; omega)
  unfold fX7_text
  rw [X_tree1 hq hX.1.1, bd_s, oc_some]
  refine wp_nx ?_
  have f0 : fr sO σ (sI σ 7 1 0) := fr_I fr_rf (Or.inl rfl)
  have X0 := sx hX f0
  have b0 : BX (sI σ 7 1 0) 7 [] := ⟨sI_at, fun i hi => absurd hi (Nat.not_lt_zero _)⟩
  have fin : ∀ s L, fr sO σ s → BX s 7 L → L.length < 2400 → L ++ [chn 59] = txt t → wp (fX7_text_40 N s) (fun r σ' => r = nI (txt t).length ∧ OX σ' (txt t) ∧ fr sO σ σ') := by
    intro s L hf hb hl e
    unfold fX7_text_40
    refine wp_bd (X_add hb hl) (fun _ s2 h2 => wp_some ?_)
    have b2 : BX s2 7 (txt t) := by rw [← e]; exact h2.1
    exact ⟨b2.1, b2, fr_tr hf (mo h2.2)⟩
  rw [X0.1.2.2.1]
  by_cases h : tN t = 0
  · refine wp_t (by rw [h]; decide) (fin _ [] f0 b0 (by decide) ?_)
    unfold txt; rw [if_pos h]
  · refine wp_f (nI_ge (b := tN t) (a := 0) (by omega) (by omega)) ?_
    rw [X_last X0 (by omega), bd_s]
    have z20 := sz_20 t (rt t)
    have tl' := tx_len hT 40 (rt t) (by unfold rt; omega) (rt_vc (by omega))
    refine wp_bd (X_wc hT hN 40 (rt t) 0 [] _ (by unfold rt; omega) (rt_vc (by omega)) (fun _ => by unfold rt; omega) X0 b0 (by show 0 + _ ≤ 2400; omega)) (fun _ s2 h2 => ?_)
    refine fin s2 _ (fr_tr f0 h2.2) h2.1 (by show (tx t 40 (rt t)).length < 2400; omega) ?_
    unfold txt; rw [if_neg h]; rfl
theorem M_tells {τ : St} {q : Nat} {t : Td} (hq : q < 4) (hT : TP t) (hM : SM τ q t) (hN : 3000 ≤ N) : wp (fX8_tells N (nI q) τ) (fun _ τ' => OM τ' (txt t) ∧ (∀ i, i < tN t → τ'.1 29 i = nI ((ol t 40 (rt t)).getD i 0)) ∧ fr sTZ τ τ') := by
  have h20 := hT.1.1
  have sx : ∀ {ρ : St}, fr sTZ τ ρ → SM ρ q t := fun hf => hM.fr h20 hf (fun c k h => by unfold sSM at h; unfold sTZ sOM; omega)
  unfold fX8_tells
  refine wp_gd (ibn hq (by decide)) (wp_nx (wp_nx ?_))
  rw [cl q (by omega), hM.1.2.2.1]
  have f0 : fr sTZ τ (sI τ 0 7 0) := fr_I fr_rf (Or.inl (Or.inl ⟨rfl, rfl⟩))
  have b0 : OM (sI τ 0 7 0) [] := ⟨sI_at, fun i hi => absurd hi (Nat.not_lt_zero _)⟩
  have fin : ∀ m p s L, fr sTZ τ s → OM s L → L.length < 2400 → L ++ [chn 59] = txt t → (∀ i, i < tN t → s.1 29 i = nI ((ol t 40 (rt t)).getD i 0)) → wp (fX8_tells_43 N (m + 1) (nI q) (nI (tN t)) (nI 0) p s) (fun _ τ' => OM τ' (txt t) ∧ (∀ i, i < tN t → τ'.1 29 i = nI ((ol t 40 (rt t)).getD i 0)) ∧ fr sTZ τ τ') := by
    intro m p s L hf hb hl e ho
    rw [fX8_tells_43]
    refine wp_t (by decide) (wp_bd (M_ink hb hl) (fun _ s2 h2 => wp_some ⟨?_, fun i hi => ?_, fr_tr hf (fr_mo h2.2 (fun c k hc => Or.inl hc))⟩))
    · rw [← e]; exact h2.1
    · rw [(h2.2 29 i (by unfold sOM; omega)).1]; exact ho i hi
  obtain ⟨N', rfl⟩ : ∃ N', N = N' + 1 := ⟨N - 1, by omega⟩
  by_cases h : tN t = 0
  · refine wp_t (by rw [h]; decide) (fin N' _ _ [] f0 b0 (by decide) ?_ (fun i hi => absurd hi (by omega)))
    unfold txt; rw [if_pos h]
  · have z20 := sz_20 t (rt t)
    have tl' := tx_len hT 40 (rt t) (by unfold rt; omega) (rt_vc (by omega))
    have zz := rt_sz hT (by omega)
    have go : wp (fX8_tells_40 (N' + 1) (nI q) (nI (tN t)) 0 (nI (rt t)) 0 (sI τ 0 7 0)) (fun _ τ' => OM τ' (txt t) ∧ (∀ i, i < tN t → τ'.1 29 i = nI ((ol t 40 (rt t)).getD i 0)) ∧ fr sTZ τ τ') := by
      unfold fX8_tells_40
      refine wp_gd (by decide) (wp_nx ?_)
      have f1 : fr sTZ τ (sI (sI τ 0 7 0) 28 (0 : Int32).toNatClampNeg (nI (rt t))) := fr_I f0 (Or.inr (Or.inl rfl))
      have b1 : OM (sI (sI τ 0 7 0) 28 (0 : Int32).toNatClampNeg (nI (rt t))) [] := ⟨by rw [sI_of (by omega)]; exact b0.1, fun i hi => absurd hi (Nat.not_lt_zero _)⟩
      obtain ⟨m, hm⟩ : ∃ m, N' + 1 = (m + 1) + (4 * sz t (rt t) - 3) := ⟨N' - (4 * sz t (rt t) - 3), by omega⟩
      have r := M_tell (N := N' + 1) (Q := fun _ τ' => OM τ' (txt t) ∧ (∀ i, i < tN t → τ'.1 29 i = nI ((ol t 40 (rt t)).getD i 0)) ∧ fr sTZ τ τ') hq hT hN 40 (rt t) (by unfold rt; omega) (rt_vc (by omega)) (m + 1) 0 0 [] _ (fun _ => by omega) (fun _ => by unfold rt; omega) (sx f1) b1 (by show 0 + _ ≤ 2400; omega) (by omega) sI_at (fun τ' M' O' d' f' => ?_)
      · rw [← hm] at r; exact r
      · refine fin m _ τ' _ (fr_tr f1 (fr_mo f' (fun c k hc => ?_))) O' (by show (tx t 40 (rt t)).length < 2400; omega) (by unfold txt; rw [if_neg h]; rfl) (fun i hi => ?_)
        · unfold sTl at hc; unfold sTZ; rcases hc with z | z | z
          · exact Or.inl z
          · exact Or.inr (Or.inl z.1)
          · exact Or.inr (Or.inr z.1)
        · have := d' i (by omega)
          rw [Nat.zero_add] at this; exact this
    refine wp_f (nI_ge (b := tN t) (a := 0) (by omega) (by omega)) (wp_i (fun z => ?_) (fun z => ?_))
    · have : tN t ≤ 1 := (nI_leI (b := 1) (by omega) (by omega)).mp z
      have e : rt t = 0 := by unfold rt; omega
      have go2 := go
      rw [e] at go2 ⊢
      exact go2
    · have e : (2 : Int32) * nI (tN t) - 2 = nI (rt t) := by
        show nI 2 * nI (tN t) - nI 2 = _
        rw [pk_mul, pk_sub (by omega)]
      rw [e]; exact go
theorem J_text {σ τ : St} (h : Rel σ τ) (hN : 3000 ≤ N) (x : Int32) : jt (fX7_text N x σ) (fX8_text N x τ) Rel := by
  rcases slot_c (N := N) h x with ⟨h1, h2⟩ | ⟨q, t, hq, rfl, hT, hX, hM, h1, h2⟩
  · refine jt_no h (a := -1) ?_ ?_
    · unfold fX7_text; rw [h1]; rfl
    · unfold fX8_text; rw [h2]; rfl
  · refine jt_wp (X_text hq hT hX hN) (Q := fun r τ' => r = nI (txt t).length ∧ OM τ' (txt t) ∧ fr sTZ τ τ') ?_ ?_
    · unfold fX8_text
      rw [h2, bd_s, if_neg n10]
      refine wp_bd (M_tells hq hT hM hN) (fun _ s hs => wp_some ⟨hs.1.1, hs.1, hs.2.2⟩)
    · intro a b σ' τ' hp hq
      refine ⟨hp.1.trans hq.1.symm, h.O hp.2.2 (fr_mo hq.2.2 (fun c k hc => ?_)) ⟨_, txt_ok hT, hp.2.1, hq.2.1⟩⟩
      unfold sTZ sOM at hc; unfold sOZ sOM; omega
/-- order -/
theorem X_pio {σ : St} {q : Nat} {t : Td} (hT : TP t) (hX : SX σ q t) : ∀ f c m left i, c < f → vc t c → left < sz t c → (tN t ≤ c → i + (c - tN t) ≤ 18) → i ≤ 19 → c < m → fX6_pointInOrder_10 N q m (nI c) (nI left) (nI i) σ = some (nI ((ol t f c).getD left 0), σ) := by
  have h20 := hT.1.1
  intro f
  induction f with
  | zero => intro c m left i h; omega
  | succ f ih =>
    intro c m left i hf hc hl hi hi2 hm
    obtain ⟨m, rfl⟩ : ∃ m', m = m' + 1 := ⟨m - 1, by omega⟩
    rw [fX6_pointInOrder_10, hX.1.2.2.1, ol]
    by_cases h : c < tN t
    · rw [if_pos h]
      rw [sz_leaf hT h] at hl
      have : left = 0 := by omega
      subst this
      by_cases h19 : (19 : Int32) ≤ nI i
      · rw [if_pos h19]; rfl
      · rw [if_neg h19, X_shas0 hX (Or.inl (pk_sneg (by omega) h)), bd_s, if_pos rfl]; rfl
    · obtain ⟨k, rfl⟩ : ∃ k, c = tN t + k := ⟨c - tN t, by omega⟩
      have hk : k + 1 < tN t := by rcases hc with z | z <;> omega
      have hll := ld_lt hT hk
      have vl : vc t (ld t k) := by unfold vc; omega
      have vt : vc t (tl t k) := by unfold vc; omega
      have hs := sz_step hT hk
      have hi' := hi (by omega)
      rw [Nat.add_sub_cancel_left] at hi'
      obtain ⟨v, hv, ev, bv⟩ := X_bitsOf (N := N) hT hX vl
      have ec : pcn v 20 = sz t (ld t k) := by
        rw [pcn_p v 20 (by omega)]
        unfold sz
        congr 1
        funext i; exact bv i
      have ol1 := ol_len hT f (ld t k) (by omega) vl
      have z1 := sz_20 t (ld t k)
      have z2 := sz_20 t (tN t + k)
      rw [if_neg h, if_neg (show ¬ (19 : Int32) ≤ nI i from nI_ge (a := i) (b := 19) (by omega) (by omega)), pk_sub (by omega), Nat.add_sub_cancel_left, X_shas hT hX hk, bd_s, if_neg n10, hX.1.2.2.1, pk_sub (by omega), Nat.add_sub_cancel_left, nx_r, X_lead hT hX hk, bd_s, ev, bd_s, X_bitc hv, bd_s, ec]
      have i1 : nI i + (1 : Int32) = nI (i + 1) := nI_1 i
      by_cases z : left < sz t (ld t k)
      · rw [if_neg (nI_ge z (by omega)), X_lead hT hX hk, bd_s]
        unfold fX6_pointInOrder_84
        rw [nx_r, i1, ih (ld t k) m left (i + 1) (by omega) vl z (by omega) (by omega) (by omega)]
        rw [List.getD_eq_getElem?_getD, List.getD_eq_getElem?_getD, List.getElem?_append_left (by omega)]
      · rw [if_pos (nI_le (by omega) (by omega)), nx_r, X_trail hT hX hk, bd_s]
        unfold fX6_pointInOrder_84
        rw [nx_r, i1, pk_sub (by omega), ih (tl t k) m (left - sz t (ld t k)) (i + 1) (by omega) vt (by omega) (by omega) (by omega) (by omega)]
        rw [List.getD_eq_getElem?_getD, List.getD_eq_getElem?_getD, List.getElem?_append_right (by omega), ol1]
theorem M_order65 {τ0 : St} {k : Nat} {L : List Int32} {r : Int32} (hk : k < 20) (hL : LOK L) (h29 : τ0.1 29 k = r) (hkp : ∀ i, i < L.length → τ0.1 30 i = L.getD i 0) (hN : 3000 ≤ N) : wp (fX8_order_65 N N (nI k) (nI L.length) 0 τ0) (fun v τ' => v = r ∧ OM τ' L ∧ fr sOM τ0 τ') := by
  have hl := hL.1
  have key : ∀ m i ρ, i ≤ L.length → L.length - i < m → ((∀ z, z < i → ρ.1 5 z = L.getD z 0) ∧ fr (fun c _ => c = 5) τ0 ρ) → wp (fX8_order_65 N m (nI k) (nI L.length) (nI i) ρ) (fun v τ' => v = r ∧ OM τ' L ∧ fr sOM τ0 τ') := by
    refine loop_i (fun m i ρ => wp (fX8_order_65 N m (nI k) (nI L.length) (nI i) ρ) (fun v τ' => v = r ∧ OM τ' L ∧ fr sOM τ0 τ')) (fun i ρ => (∀ z, z < i → ρ.1 5 z = L.getD z 0) ∧ fr (fun c _ => c = 5) τ0 ρ) L.length ?_ ?_
    · intro m ρ hp
      rw [fX8_order_65]
      refine wp_t (nI_le (Nat.le_refl _) (by omega)) (wp_nx (wp_gd (ibn hk (by decide)) (wp_some ⟨?_, ⟨sI_at, fun i hi => ?_⟩, fr_I (fr_mo hp.2 (fun c k hc => Or.inr hc)) (Or.inl ⟨rfl, rfl⟩)⟩)))
      · rw [cl k (by omega), sI_of (by omega), (hp.2 29 k (by omega)).1]; exact h29
      · rw [sI_of (by omega)]; exact hp.1 i hi
    · intro m i ρ hi hp ih
      rw [fX8_order_65]
      refine wp_f (nI_ge hi (by omega)) (wp_gd (ibn (by omega) (by decide)) (wp_gd (ibn (by omega) (by decide)) (wp_nx (wp_nx ?_))))
      show wp (fX8_order_65 N m (nI k) (nI L.length) (nI i + 1) _) _
      rw [nI_1, cl i (by omega), (hp.2 30 i (by omega)).1, hkp i hi, hL.2 _ (getD_mem hi)]
      refine ih _ ⟨fun z hz => ?_, fr_I hp.2 rfl⟩
      by_cases e : z = i
      · subst e; exact sI_at
      · rw [sI_of (by omega)]; exact hp.1 z (by omega)
  exact key N 0 τ0 (by omega) (by omega) ⟨fun z hz => absurd hz (by omega), fr_rf⟩
theorem M_order31 {τ : St} {q k : Nat} {t : Td} {L : List Int32} (hq : q < 4) (hT : TP t) (hM : SM τ q t) (hk : k < tN t) (hO : OM τ L) (hL : LOK L) (hN : 3000 ≤ N) : wp (fX8_order_31 N N (nI q) (nI k) (nI L.length) 0 τ) (fun v τ' => v = nI ((ol t 40 (rt t)).getD k 0) ∧ OM τ' L ∧ fr sOZ τ τ') := by
  have hl := hL.1
  have h20 := hT.1.1
  have key : ∀ m i ρ, i ≤ L.length → L.length - i < m → ((∀ z, z < i → ρ.1 30 z = L.getD z 0) ∧ fr (fun c _ => c = 30) τ ρ) → wp (fX8_order_31 N m (nI q) (nI k) (nI L.length) (nI i) ρ) (fun v τ' => v = nI ((ol t 40 (rt t)).getD k 0) ∧ OM τ' L ∧ fr sOZ τ τ') := by
    refine loop_i (fun m i ρ => wp (fX8_order_31 N m (nI q) (nI k) (nI L.length) (nI i) ρ) (fun v τ' => v = nI ((ol t 40 (rt t)).getD k 0) ∧ OM τ' L ∧ fr sOZ τ τ')) (fun i ρ => (∀ z, z < i → ρ.1 30 z = L.getD z 0) ∧ fr (fun c _ => c = 30) τ ρ) L.length ?_ ?_
    · intro m ρ hp
      rw [fX8_order_31]
      have Mρ : SM ρ q t := hM.fr h20 hp.2 (fun c k h => by unfold sSM at h; omega)
      refine wp_t (nI_le (Nat.le_refl _) (by omega)) (wp_bd (M_tells hq hT Mρ hN) (fun _ s hs => ?_))
      refine wp_mono (M_order65 (by omega) hL (hs.2.1 k hk) (fun i hi => ?_) hN) (fun v τ' hv => ⟨hv.1, hv.2.1, ?_⟩)
      · rw [(hs.2.2 30 i (by unfold sTZ sOM; omega)).1]; exact hp.1 i hi
      · refine fr_tr (fr_mo hp.2 (fun c k hc => ?_)) (fr_tr (fr_mo hs.2.2 (fun c k hc => ?_)) (fr_mo hv.2.2 (fun c k hc => Or.inl hc)))
        · unfold sOZ; omega
        · unfold sTZ sOM at hc; unfold sOZ sOM; omega
    · intro m i ρ hi hp ih
      rw [fX8_order_31]
      refine wp_f (nI_ge hi (by omega)) (wp_gd (ibn (by omega) (by decide)) (wp_gd (ibn (by omega) (by decide)) (wp_nx (wp_nx ?_))))
      show wp (fX8_order_31 N m (nI q) (nI k) (nI L.length) (nI i + 1) _) _
      rw [nI_1, cl i (by omega), (hp.2 5 i (by omega)).1, hO.2 i hi, hL.2 _ (getD_mem hi)]
      refine ih _ ⟨fun z hz => ?_, fr_I hp.2 rfl⟩
      by_cases e : z = i
      · subst e; exact sI_at
      · rw [sI_of (by omega)]; exact hp.1 z (by omega)
  exact key N 0 τ (by omega) (by omega) ⟨fun z hz => absurd hz (by omega), fr_rf⟩
theorem J_order {σ τ : St} (h : Rel σ τ) (hN : 3000 ≤ N) (x y : Int32) : jt (fX7_order N x y σ) (fX8_order N x y τ) Rel := by
  rcases slot_c (N := N) h x with ⟨h1, h2⟩ | ⟨q, t, hq, rfl, hT, hX, hM, h1, h2⟩
  · refine jt_no h (a := -1) ?_ ?_
    · unfold fX7_order; rw [h1]; rfl
    · unfold fX8_order; rw [h2]; rfl
  · have h20 := hT.1.1
    obtain ⟨L, hL, hOX, hOM⟩ := h.2.2.1
    unfold fX7_order fX8_order
    rw [h1, h2, bd_s, bd_s, oc_some, if_neg n10, gd_t (ibn hq (by decide)), cl q (by omega), hM.1.2.2.1]
    rcases ixc y (n := tN t) (by omega) with hy | ⟨k, hk, rfl⟩
    · refine jt_no h (a := -1) ?_ ?_
      · rw [X_phas0 hX hy]; rfl
      · rw [M_in0 hy]; rfl
    · rw [X_phas hT hX hk, M_in1 (by omega) hk, bd_s, bd_s, if_neg n10, if_neg n10, nx_r, hOM.1]
      refine jt_wp (P := fun r σ' => r = nI ((ol t 40 (rt t)).getD k 0) ∧ σ' = σ) ?_ (M_order31 hq hT hM hk hOM hL hN) ?_
      · unfold fX6_pointInOrder
        have zz := rt_sz hT (by omega)
        rw [X_last hX (by omega), bd_s]
        have := X_pio (N := N) hT hX 40 (rt t) N k 0 (by unfold rt; omega) (rt_vc (by omega)) (by omega) (fun _ => by unfold rt; omega) (by omega) (by unfold rt; omega)
        rw [show (0 : Int32) = nI 0 from rfl, this, bd_s]
        exact wp_some ⟨rfl, rfl⟩
      · rintro a b σ' τ' ⟨ha, rfl⟩ hb
        exact ⟨ha.trans hb.1.symm, h.O fr_rf hb.2.2 ⟨L, hL, hOX, hb.2.1⟩⟩
end
