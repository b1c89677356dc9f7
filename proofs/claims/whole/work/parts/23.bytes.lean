/-! bytes: feed, end, take, out, fault -/
theorem nb2 (x : Int32) : x.toInt8.toInt32.toInt8.toInt32 = x.toInt8.toInt32 := by rw [← vp_nar_byte x.toInt8.toInt32, pk_vb]
def BX (σ : St) (a : Nat) (L : List Int32) : Prop := σ.1 a 1 = nI L.length ∧ BL (σ.1 (a + 1)) L
theorem BL_app {f : Nat → Int32} {L M : List Int32} (h : BL f L) (h2 : ∀ i, i < M.length → f (L.length + i) = M.getD i 0) : BL f (L ++ M) := by
  intro i hi
  rw [List.length_append] at hi
  by_cases hl : i < L.length
  · rw [h i hl, List.getD_eq_getElem?_getD, List.getD_eq_getElem?_getD, List.getElem?_append_left hl]
  · rw [List.getD_eq_getElem?_getD, List.getElem?_append_right (by omega), ← List.getD_eq_getElem?_getD]
    have := h2 (i - L.length) (by omega)
    rw [← this]; congr 1; omega
theorem LOK_app {L : List Int32} {b : Int32} (h : LOK L) (hl : L.length < 2400) : LOK (L ++ [b.toInt8.toInt32]) := by
  refine ⟨by rw [List.length_append]; show L.length + 1 ≤ 2400; omega, fun x hx => ?_⟩
  rcases List.mem_append.mp hx with hx | hx
  · exact h.2 x hx
  · rw [List.mem_singleton.mp hx, nb2]
section
variable {N : Nat}
theorem X_add {σ : St} {a : Nat} {L : List Int32} {x : Int32} (h : BX σ a L) (hl : L.length < 2400) : wp (fX0_add N a x σ) (fun _ σ' => BX σ' a (L ++ [x.toInt8.toInt32]) ∧ fr (fun c _ => c = a ∨ c = a + 1) σ σ') := by
  unfold fX0_add
  rw [h.1]
  refine wp_f (nI_ge (b := 2400) hl (by omega)) (wp_gd (ibn hl (by decide)) (wp_nx (wp_nx (wp_some ?_))))
  rw [cl _ (by omega), nb2]
  refine ⟨⟨?_, ?_⟩, fr_I (fr_I fr_rf (Or.inr rfl)) (Or.inl rfl)⟩
  · rw [sI_at, sI_of (by omega), h.1, List.length_append]
    show nI L.length + 1 = _
    rw [nI_1]; rfl
  · refine BL_app (fun i hi => ?_) (fun i hi => ?_)
    · rw [sI_of (by omega), sI_of (by omega)]; exact h.2 i hi
    · have e : i = 0 := by simp at hi; exact hi
      subst e
      rw [sI_of (by omega)]; exact sI_at
def by4 (w : Int32) : List Int32 := [(w >>> ((24 : Int32) &&& 31)).toInt8.toInt32, (w >>> ((16 : Int32) &&& 31)).toInt8.toInt32, (w >>> ((8 : Int32) &&& 31)).toInt8.toInt32, w.toInt8.toInt32]
theorem X_add4 {σ : St} {a : Nat} {L : List Int32} {x : Int32} (h : BX σ a L) (hl : L.length + 4 ≤ 2400) : wp (fX0_addFour N a x σ) (fun _ σ' => BX σ' a (L ++ by4 x) ∧ fr (fun c _ => c = a ∨ c = a + 1) σ σ') := by
  unfold fX0_addFour
  refine wp_bd (X_add h (by omega)) (fun _ s1 h1 => wp_bd (X_add h1.1 (by rw [List.length_append]; show L.length + 1 < 2400; omega)) (fun _ s2 h2 => wp_bd (X_add h2.1 (by rw [List.length_append, List.length_append]; show L.length + 1 + 1 < 2400; omega)) (fun _ s3 h3 => wp_bd (X_add h3.1 (by rw [List.length_append, List.length_append, List.length_append]; show L.length + 1 + 1 + 1 < 2400; omega)) (fun _ s4 h4 => wp_some ⟨?_, fr_tr h1.2 (fr_tr h2.2 (fr_tr h3.2 h4.2))⟩))))
  have e := h4.1
  rw [List.append_assoc, List.append_assoc, List.append_assoc] at e
  exact e
def by20 (a b c d e : Int32) : List Int32 := by4 a ++ (by4 b ++ (by4 c ++ (by4 d ++ by4 e)))
theorem by20_len (a b c d e : Int32) : (by20 a b c d e).length = 20 := rfl
theorem sh_i : ∀ i, i < 20 → ((24 : Int32) - (8 : Int32) * (nI i - nI i / (4 : Int32) * (4 : Int32))) &&& 31 = nI (24 - 8 * (i % 4)) &&& 31 := by decide +kernel
def wsel (a b c d e : Int32) (i : Nat) : Int32 := if i < 4 then a else if i < 8 then b else if i < 12 then c else if i < 16 then d else e
theorem by20_at (a b c d e : Int32) {i : Nat} (hi : i < 20) : ((wsel a b c d e i) >>> (nI (24 - 8 * (i % 4)) &&& 31)).toInt8.toInt32 = (by20 a b c d e).getD i 0 := by
  have z : ∀ w : Int32, (w >>> (nI 0 &&& 31)) = w := fun w => sb_shr0 w
  rcases (show i = 0 ∨ i = 1 ∨ i = 2 ∨ i = 3 ∨ i = 4 ∨ i = 5 ∨ i = 6 ∨ i = 7 ∨ i = 8 ∨ i = 9 ∨ i = 10 ∨ i = 11 ∨ i = 12 ∨ i = 13 ∨ i = 14 ∨ i = 15 ∨ i = 16 ∨ i = 17 ∨ i = 18 ∨ i = 19 by omega) with rfl | rfl | rfl | rfl | rfl | rfl | rfl | rfl | rfl | rfl | rfl | rfl | rfl | rfl | rfl | rfl | rfl | rfl | rfl | rfl
  all_goals first | rfl | (show (_ >>> (nI 0 &&& 31)).toInt8.toInt32 = _; rw [z]; rfl)
theorem M_feed71 {K : Int32 → Int32 → Int32 → Int32 → Int32 → Int32 → St → Option (Int32 × St)} {Q : Int32 → St → Prop} {a b c d e w : Int32} {i : Nat} {σ : St} {L : List Int32} (hi : i < 20) (h : TM σ L) (hl : L.length < 2400) (hk : ∀ σ', TM σ' (L ++ [(w >>> (nI (24 - 8 * (i % 4)) &&& 31)).toInt8.toInt32]) → fr sTM σ σ' → wp (K a b c d e (nI (i + 1)) σ') Q) : wp (fX8_feed_71 N K a b c d e (nI i) w σ) Q := by
  unfold fX8_feed_71
  rw [h.1, sh_i i hi]
  refine wp_gd (ibn hl (by decide)) (wp_nx (wp_nx (wp_nx ?_)))
  show wp (K a b c d e (nI i + 1) _) Q
  rw [nI_1, cl _ (by omega), nb2]
  refine hk _ ⟨?_, ?_⟩ (fr_I (fr_I fr_rf (Or.inr rfl)) (Or.inl ⟨rfl, rfl⟩))
  · rw [sI_at, sI_of (by omega), h.1, List.length_append]
    show nI L.length + 1 = _
    rw [nI_1]; rfl
  · refine BL_app (fun i hi => ?_) (fun i hi => ?_)
    · rw [sI_of (by omega), sI_of (by omega)]; exact h.2 i hi
    · have e : i = 0 := by simp at hi; exact hi
      subst e
      rw [sI_of (by omega)]; exact sI_at
theorem take_s {L : List Int32} {i : Nat} (hi : i < L.length) : L.take i ++ [L.getD i 0] = L.take (i + 1) := by
  rw [List.take_succ, List.getD_eq_getElem?_getD, List.getElem?_eq_getElem hi]; rfl
theorem M_feed {σ : St} {a b c d e : Int32} {L : List Int32} (h : TM σ L) (hl : L.length + 20 ≤ 2400) (hN : 3000 ≤ N) : wp (fX8_feed_18 N N a b c d e 0 σ) (fun r σ' => r = nI (L.length + 20) ∧ TM σ' (L ++ by20 a b c d e) ∧ fr sTM σ σ') := by
  have key : ∀ m i τ, i ≤ 20 → 20 - i < m → (TM τ (L ++ (by20 a b c d e).take i) ∧ fr sTM σ τ) → wp (fX8_feed_18 N m a b c d e (nI i) τ) (fun r σ' => r = nI (L.length + 20) ∧ TM σ' (L ++ by20 a b c d e) ∧ fr sTM σ σ') := by
    refine loop_i (fun m i τ => wp (fX8_feed_18 N m a b c d e (nI i) τ) (fun r σ' => r = nI (L.length + 20) ∧ TM σ' (L ++ by20 a b c d e) ∧ fr sTM σ σ')) (fun i τ => TM τ (L ++ (by20 a b c d e).take i) ∧ fr sTM σ τ) 20 ?_ ?_
    · intro m τ hp
      rw [fX8_feed_18]
      have et : (by20 a b c d e).take 20 = by20 a b c d e := List.take_of_length_le (by rw [by20_len]; omega)
      rw [et] at hp
      refine wp_t (nI_le (a := 20) (b := 20) (by omega) (by omega)) (wp_some ⟨?_, hp⟩)
      rw [hp.1.1, List.length_append, by20_len]
    · intro m i τ hi hp ih
      rw [fX8_feed_18]
      have len : (L ++ (by20 a b c d e).take i).length = L.length + i := by rw [List.length_append, List.length_take, by20_len]; omega
      have fin : ∀ w, w = wsel a b c d e i → wp (fX8_feed_71 N (fX8_feed_18 N m) a b c d e (nI i) w τ) (fun r σ' => r = nI (L.length + 20) ∧ TM σ' (L ++ by20 a b c d e) ∧ fr sTM σ σ') := by
        intro w ew
        refine M_feed71 hi hp.1 (by omega) (fun σ' ht hf => ih σ' ⟨?_, fr_tr hp.2 hf⟩)
        rw [ew, by20_at a b c d e hi, List.append_assoc, take_s (by rw [by20_len]; exact hi)] at ht
        exact ht
      refine wp_f (nI_ge (b := 20) hi (by omega)) (wp_i (fun e1 => wp_i (fun e2 => wp_i (fun e3 => wp_i (fun e4 => ?_) (fun e4 => ?_)) (fun e3 => ?_)) (fun e2 => ?_)) (fun e1 => ?_))
      · have h1 := (nI_leI (a := 16) (by omega) (by omega)).mp e4
        exact fin _ (by unfold wsel; rw [if_neg (by omega), if_neg (by omega), if_neg (by omega), if_neg (by omega)])
      · have h1 := (nI_leI (a := 12) (by omega) (by omega)).mp e3
        have h2 : ¬ 16 ≤ i := fun z => e4 (nI_le (a := 16) z (by omega))
        exact fin _ (by unfold wsel; rw [if_neg (by omega), if_neg (by omega), if_neg (by omega), if_pos (by omega)])
      · have h1 := (nI_leI (a := 8) (by omega) (by omega)).mp e2
        have h2 : ¬ 12 ≤ i := fun z => e3 (nI_le (a := 12) z (by omega))
        exact fin _ (by unfold wsel; rw [if_neg (by omega), if_neg (by omega), if_pos (by omega)])
      · have h1 := (nI_leI (a := 4) (by omega) (by omega)).mp e1
        have h2 : ¬ 8 ≤ i := fun z => e2 (nI_le (a := 8) z (by omega))
        exact fin _ (by unfold wsel; rw [if_neg (by omega), if_pos (by omega)])
      · have h2 : ¬ 4 ≤ i := fun z => e1 (nI_le (a := 4) z (by omega))
        exact fin _ (by unfold wsel; rw [if_pos (by omega)])
  exact key N 0 σ (by omega) (by omega) ⟨by rw [List.take_zero, List.append_nil]; exact h, fr_rf⟩
theorem by4_nb {w b : Int32} (h : b ∈ by4 w) : b.toInt8.toInt32 = b := by
  unfold by4 at h
  simp only [List.mem_cons, List.not_mem_nil, or_false] at h
  rcases h with rfl | rfl | rfl | rfl <;> exact nb2 _
theorem by20_nb {a b c d e x : Int32} (h : x ∈ by20 a b c d e) : x.toInt8.toInt32 = x := by
  unfold by20 at h
  rcases List.mem_append.mp h with h | h
  · exact by4_nb h
  rcases List.mem_append.mp h with h | h
  · exact by4_nb h
  rcases List.mem_append.mp h with h | h
  · exact by4_nb h
  rcases List.mem_append.mp h with h | h
  · exact by4_nb h
  · exact by4_nb h
theorem J_feed {σ τ : St} (h : Rel σ τ) (hN : 3000 ≤ N) (a b c d e : Int32) : jt (fX7_feed N a b c d e σ) (fX8_feed N a b c d e τ) Rel := by
  obtain ⟨L, hL, hX, hM⟩ := h.2.1
  have hl := hL.1
  unfold fX7_feed fX8_feed
  rw [hX.1, hM.1]
  have ea : nI L.length + (20 : Int32) = nI (L.length + 20) := nI_add L.length 20
  rw [ea]
  by_cases hc : L.length + 20 ≤ 2400
  · have hle : nI (L.length + 20) ≤ (2400 : Int32) := nI_le (b := 2400) hc (by omega)
    rw [if_pos hle, if_pos hle]
    refine jt_wp (P := fun r σ' => r = nI (L.length + 20) ∧ TX σ' (L ++ by20 a b c d e) ∧ fr sT σ σ') ?_ (M_feed hM hc hN) ?_
    · have hb : BX σ 5 L := hX
      have l4 : ∀ w, (by4 w).length = 4 := fun _ => rfl
      refine wp_bd (X_add4 hb (by omega)) (fun _ s1 h1 => wp_bd (X_add4 h1.1 (by simp only [List.length_append, l4]; omega)) (fun _ s2 h2 => wp_bd (X_add4 h2.1 (by simp only [List.length_append, l4]; omega)) (fun _ s3 h3 => wp_bd (X_add4 h3.1 (by simp only [List.length_append, l4]; omega)) (fun _ s4 h4 => wp_bd (X_add4 h4.1 (by simp only [List.length_append, l4]; omega)) (fun _ s5 h5 => wp_some ⟨?_, ?_, ?_⟩)))))
      · rw [h5.1.1]; simp only [List.length_append, l4]
      · have ee := h5.1
        rw [List.append_assoc, List.append_assoc, List.append_assoc, List.append_assoc] at ee
        exact ee
      · exact fr_tr h1.2 (fr_tr h2.2 (fr_tr h3.2 (fr_tr h4.2 h5.2)))
    · intro r r2 σ' τ' hp hq
      refine ⟨hp.1.trans hq.1.symm, h.T hp.2.2 hq.2.2 ⟨_, ⟨?_, fun x hx => ?_⟩, hp.2.1, hq.2.1⟩⟩
      · rw [List.length_append, by20_len]; omega
      · rcases List.mem_append.mp hx with hx | hx
        · exact hL.2 x hx
        · exact by20_nb hx
  · have hle : ¬ nI (L.length + 20) ≤ (2400 : Int32) := nI_ge (a := 2400) (by omega) (by omega)
    rw [if_neg hle, if_neg hle]
    exact jt_no h rfl rfl
theorem J_end {σ τ : St} (h : Rel σ τ) (x : Int32) : jt (fX7_end N x σ) (fX8_end N x τ) Rel := by
  obtain ⟨L, hL, hX, hM⟩ := h.2.1
  have hl := hL.1
  unfold fX7_end fX8_end
  rw [hX.1, hM.1]
  by_cases h0 : x < 0
  · rw [if_pos h0, if_pos h0]; exact jt_no h rfl rfl
  rw [if_neg h0, if_neg h0]
  by_cases h1 : x ≤ nI L.length
  · rw [if_pos h1, if_pos h1]
    obtain ⟨j, hj, rfl⟩ := nI_of h0
    have hjl := (nI_leI hj (by omega)).mp h1
    refine ⟨nI j, _, _, rfl, rfl, h.T (fr_I fr_rf (Or.inl rfl)) (fr_I fr_rf (Or.inl ⟨rfl, rfl⟩)) ⟨L.take j, ⟨?_, fun b hb => hL.2 b (List.mem_of_mem_take hb)⟩, ⟨?_, fun i hi => ?_⟩, ?_, fun i hi => ?_⟩⟩
    · rw [List.length_take]; omega
    · rw [sI_at, List.length_take, Nat.min_eq_left hjl]
    · rw [List.length_take] at hi
      rw [sI_of (by omega), hX.2 i (by omega)]
      rw [List.getD_eq_getElem?_getD, List.getD_eq_getElem?_getD, List.getElem?_take_of_lt (by omega)]
    · rw [sI_at, List.length_take, Nat.min_eq_left hjl]
    · rw [List.length_take] at hi
      rw [sI_of (by omega), hM.2 i (by omega)]
      rw [List.getD_eq_getElem?_getD, List.getD_eq_getElem?_getD, List.getElem?_take_of_lt (by omega)]
  · rw [if_neg h1, if_neg h1]; exact jt_no h rfl rfl
theorem getD_mem {L : List Int32} {i : Nat} (hi : i < L.length) : L.getD i 0 ∈ L := by
  rw [List.getD_eq_getElem?_getD, List.getElem?_eq_getElem hi]; exact List.getElem_mem hi
theorem J_take {σ τ : St} (h : Rel σ τ) (hN : 3000 ≤ N) : jt (fX7_take N σ) (fX8_take N τ) Rel := by
  obtain ⟨L, hL, hX, hM⟩ := h.2.2.1
  have hl := hL.1
  have fit : ∀ i, i < L.length → fits .byte (.int (L.getD i 0)) = true := fun i hi => by
    rw [← hL.2 _ (getD_mem hi)]; exact pk_fb _
  refine jt_wp (P := fun r σ' => r = nI L.length ∧ TX σ' L ∧ fr sT σ σ') (Q := fun r τ' => r = nI L.length ∧ TM τ' L ∧ fr sTM τ τ') ?_ ?_ ?_
  · unfold fX7_take fX0_copyFrom
    rw [hX.1]
    have ok : cpOk σ 8 (nI L.length) 2400 2400 = true := by
      unfold cpOk
      rw [cl _ (by omega)]
      exact decide_eq_true ⟨nI_pos (by omega), hl, hl, fun i hi => by rw [hX.2 i hi]; exact fit i hi⟩
    refine wp_bd (Q := fun _ σ' => TX σ' L ∧ fr sT σ σ') (wp_gd ok (wp_nx (wp_nx (wp_some ?_)))) (fun _ s1 h1 => wp_some ⟨h1.1.1, h1⟩)
    rw [cl _ (by omega)]
    have r7 : (sC σ 8 (5 + 1) L.length).1 7 1 = nI L.length := by rw [← hX.1]; rfl
    refine ⟨⟨?_, fun i hi => ?_⟩, ?_⟩
    · rw [sI_at, r7]
    · rw [sI_of (by omega)]
      show va_cpy (σ.1 8) (σ.1 6) 0 0 L.length i = _
      rw [sb_cpy0 hi]; exact hX.2 i hi
    · refine fr_I ?_ (Or.inl rfl)
      intro c k hn
      refine ⟨?_, rfl⟩
      have hc : c ≠ 5 + 1 := fun e => hn (Or.inr e)
      exact if_neg hc
  · unfold fX8_take
    have key : ∀ m i ρ, i ≤ L.length → L.length - i < m → ((∀ z, z < i → ρ.1 4 z = L.getD z 0) ∧ fr (fun c _ => c = 4) τ ρ) → wp (fX8_take_2 N m (nI i) ρ) (fun r τ' => r = nI L.length ∧ TM τ' L ∧ fr sTM τ τ') := by
      refine loop_i (fun m i ρ => wp (fX8_take_2 N m (nI i) ρ) (fun r τ' => r = nI L.length ∧ TM τ' L ∧ fr sTM τ τ')) (fun i ρ => (∀ z, z < i → ρ.1 4 z = L.getD z 0) ∧ fr (fun c _ => c = 4) τ ρ) L.length ?_ ?_
      · intro m ρ hp
        have e7 : ρ.1 0 7 = nI L.length := by rw [(hp.2 0 7 (by omega)).1]; exact hM.1
        rw [fX8_take_2, e7]
        refine wp_t (nI_le (Nat.le_refl _) (by omega)) (wp_nx (wp_some ⟨sI_at, ⟨sI_at, fun i hi => ?_⟩, ?_⟩))
        · rw [sI_of (by omega)]; exact hp.1 i hi
        · exact fr_I (fr_mo hp.2 (fun c k hc => Or.inr hc)) (Or.inl ⟨rfl, rfl⟩)
      · intro m i ρ hi hp ih
        have e7 : ρ.1 0 7 = nI L.length := by rw [(hp.2 0 7 (by omega)).1]; exact hM.1
        have e5 : ρ.1 5 i = L.getD i 0 := by rw [(hp.2 5 i (by omega)).1]; exact hM.2 i hi
        rw [fX8_take_2, e7]
        refine wp_f (nI_ge hi (by omega)) (wp_gd (ibn (by omega) (by decide)) (wp_gd (ibn (by omega) (by decide)) (wp_nx (wp_nx ?_))))
        show wp (fX8_take_2 N m (nI i + 1) _) _
        rw [nI_1, cl i (by omega), e5, hL.2 _ (getD_mem hi)]
        refine ih _ ⟨fun z hz => ?_, fr_I hp.2 rfl⟩
        by_cases ez : z = i
        · subst ez; exact sI_at
        · rw [sI_of (by omega)]; exact hp.1 z (by omega)
    exact key N 0 τ (by omega) (by omega) ⟨fun z hz => absurd hz (by omega), fr_rf⟩
  · intro a b σ' τ' hp hq
    exact ⟨hp.1.trans hq.1.symm, h.T hp.2.2 hq.2.2 ⟨L, hL, hp.2.1, hq.2.1⟩⟩
theorem J_fault {σ τ : St} (h : Rel σ τ) : jt (fX7_fault N σ) (fX8_fault N τ) Rel := by
  refine jt_no h (a := σ.1 9 2) ?_ ?_
  · unfold fX7_fault; rfl
  · unfold fX8_fault; rw [h.2.2.2.1]
theorem X_at {σ : St} {a : Nat} {L : List Int32} {i : Nat} (h : BX σ a L) (hL : L.length ≤ 2400) (hi : i < L.length) : fX0_at N a (nI i) σ = some (L.getD i 0 &&& 255, σ) := by
  unfold fX0_at
  rw [if_neg (nI_pos (by omega)), h.1, if_pos (nI_lt hi (by omega))]
  unfold gd
  rw [if_pos (ibn (by omega) (by decide)), cl i (by omega), h.2 i hi]
theorem J_out {σ τ : St} (h : Rel σ τ) (x : Int32) : jt (fX7_out N x σ) (fX8_out N x τ) Rel := by
  obtain ⟨L, hL, hX, hM⟩ := h.2.2.1
  have hl := hL.1
  have hb : BX σ 7 L := hX
  unfold fX7_out fX8_out
  rcases ixc x (n := L.length) (by omega) with hx | ⟨i, hi, rfl⟩
  · refine jt_no h (a := -1) ?_ ?_
    · have : fX0_at N 7 x σ = some (-1, σ) := by
        unfold fX0_at
        by_cases h0 : x < 0
        · rw [if_pos h0]
        · rw [if_neg h0, hb.1, if_neg]
          rcases hx with hx | hx
          · exact absurd hx h0
          · exact Int32.not_lt.mpr hx
      rw [this]; rfl
    · rw [hM.1, M_in0 hx]; rfl
  · refine jt_no h (a := L.getD i 0 &&& 255) ?_ ?_
    · rw [X_at hb hl hi]; rfl
    · rw [hM.1, M_in1 (by omega) hi]
      show gd (ib (nI i) 2400) (some _) = _
      unfold gd
      rw [if_pos (ibn (by omega) (by decide)), cl i (by omega), hM.2 i hi]
end
