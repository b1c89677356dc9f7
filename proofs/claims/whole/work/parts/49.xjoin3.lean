/-! the class joins two clusters: all of it -/
theorem sJ_p {σ : St} {c k a b : Nat} {v : Int64} : (sJ σ c k v).1 a b = σ.1 a b := rfl
theorem sI_p {σ : St} {c k a b : Nat} {v : Int32} : (sI σ c k v).2 a b = σ.2 a b := rfl
def sJj (c k : Nat) : Prop := (13 ≤ c ∧ c ≤ 16) ∨ (22 ≤ c ∧ c ≤ 27) ∨ (c = 11 ∧ k = 6) ∨ 80 ≤ c
def rJ (R : Nat → Nat) (x C : Nat) : Nat → Nat := fun c => if c = x then R C else R c
section
variable {N n kd : Nat} {d : Nat → Nat → Nat} {A : Aj} {R : Nat → Nat} {C D : Nat}
/-- before the linkages are carried on -/
def s28p (σ : St) (n kd : Nat) (d : Nat → Nat → Nat) (A : Aj) (R : Nat → Nat) (C D : Nat) (m v : Int32) : St := sI (sI (sJ (sI (sJ (sJ (sI (sI (sI σ 23 (aK A) (nI (min C D))) 24 (aK A) (nI (max C D))) 25 (aK A) (aC A C ||| aC A D)) 26 (aK A) (lZ (rT (uT n kd d A C D) (uB kd A C D)))) 27 (aK A) (lN (rB (uT n kd d A C D) (uB kd A C D)))) 22 0 (nI (aK A + 1))) 16 (R C) (σ.2 16 (R C) + (σ.2 16 (R D) + σ.2 (80 + R C) (R D)))) 15 (R C) m) 14 (R C) v
def s28 (σ : St) (n kd : Nat) (d : Nat → Nat → Nat) (A : Aj) (R : Nat → Nat) (C D : Nat) : St := s28p σ n kd d A R C D (aC A C ||| aC A D) (nI (n + aK A))
theorem X_join {σ : St} (hk : kd < 5) (hd : DD d) (hA : AI n kd d A) (hX : CX σ n kd d A R) (hC : C ∈ aF A) (hD : D ∈ aF A) (hne : C ≠ D) (hN : 3000 ≤ N) : wp (fX1_join N (nI (R C)) (nI (R D)) σ) (fun _ σ' => CX σ' n kd d (aJoin n kd d A C D (aS A)) (rJ R (n + aK A) C) ∧ fr sJj σ σ') := by
  obtain ⟨hI, h2, h3⟩ := hA
  obtain ⟨⟨x0, x1, x2, x22⟩, xs, ⟨xR, xRi⟩, x14, xl, xm⟩ := hX
  have hp := xR C hC
  have hq := xR D hD
  have hpq : R D ≠ R C := fun z => hne (xRi C D hC hD z.symm)
  have gp : ib (nI (R C)) 20 = true := ibn hp (by decide)
  have gq : ib (nI (R D)) 20 = true := ibn hq (by decide)
  have lC := hI.2.2.2.1 C hC
  have lD := hI.2.2.2.1 D hD
  have ln := hI.1
  have hn := hI.2.1
  have l1 := rmv_len hI.2.2.1 hC
  have l2 := rmv_len (rmv_pw (c := C) hI.2.2.1) (rmv_mem.mpr ⟨hD, fun e => hne e.symm⟩)
  have hK : aK A < 19 := by omega
  have vt : -1000000000000 ≤ uT n kd d A C D ∧ uT n kd d A C D ≤ 400000000000000 ∧ _ := VT_bd (kd := kd) (dep := dpt n A) (P := bc A C) (Q := bc A D) hd.1 hd.2.1 hd.2.2
  have vb := hI.ub (kd := kd) hC hD
  have lcd := xl C D hC hD hne
  have mem' : ∀ e, e ∈ rmv D (rmv C (aF A)) → e ∈ aF A ∧ e ≠ C ∧ e ≠ D := fun e he => ⟨(rmv_mem.mp (rmv_mem.mp he).1).1, (rmv_mem.mp (rmv_mem.mp he).1).2, (rmv_mem.mp he).2⟩
  have st : fX1_join N (nI (R C)) (nI (R D)) σ = bd (fX1_leave N (nI (R C)) (s28 σ n kd d A R C D)) (fun _ s => bd (fX1_leave N (nI (R D)) s) (fun _ s => fX1_join_139 N N (nI (R C)) (nI (R D)) 0 s)) := by
    unfold fX1_join
    simp only [gd_t gp, gd_t gq, nx_r, cl (R C) (by omega), cl (R D) (by omega), Nat.one_mul]
    rw [x22, (x14 C hC).1, (x14 D hD).1, (x14 C hC).2.1, (x14 D hD).2.1, X_setCl hK (by omega) (by omega), bd_s]
    have r1 : ∀ a b m, (sI (sI (sI σ (22 + 1) (aK A) a) (22 + 2) (aK A) b) (22 + 3) (aK A) m).2 (100 + R C) (R D) = lZ (uT n kd d A C D) := fun a b m => lcd.2.1
    have r2 : ∀ a b m, (sI (sI (sI σ (22 + 1) (aK A) a) (22 + 2) (aK A) b) (22 + 3) (aK A) m).2 (120 + R C) (R D) = lN (uB kd A C D) := fun a b m => lcd.2.2
    rw [r1, r2, X_setH hK (by omega) (by omega) vb.1 (by omega) hN, bd_s]
    have e1 : nI (aK A) + (1 : Int32) = nI (aK A + 1) := nI_1 _
    rw [e1]
    congr 1
    congr 1
    (repeat (first | rw [sJ_p] | rw [sI_p] | rw [sI_of (by omega)] | rw [sJ_of (by omega)]))
    rw [(x14 C hC).2.1, (x14 D hD).2.1, x0, nI_add]
    rfl
  rw [st]
  have f28 : fr sJj σ (s28 σ n kd d A R C D) := by
    unfold s28 s28p
    refine fr_I (fr_I (fr_J (fr_I (fr_J (fr_J (fr_I (fr_I (fr_I fr_rf ?_) ?_) ?_) ?_) ?_) ?_) ?_) ?_) ?_ <;> (unfold sJj; omega)
  have st28 : stn (s28 σ n kd d A R C D) ((aF A).map R) := by
    unfold s28 s28p
    refine ⟨?_, fun a ha => ?_⟩
    · (repeat (first | rw [sJ_p] | rw [sI_p] | rw [sI_of (by omega)] | rw [sJ_of (by omega)])); exact xs.1
    · (repeat (first | rw [sJ_p] | rw [sI_p] | rw [sI_of (by omega)] | rw [sJ_of (by omega)])); exact xs.2 a ha
  have rows : ∀ r, r ∈ (aF A).map R → r < 20 := fun r hr => by
    obtain ⟨c, hc, rfl⟩ := List.mem_map.mp hr
    exact xR c hc
  refine wp_bd (X_leave st28 (by rw [List.length_map]; omega) rows hp hN) (fun _ σ1 h1 => ?_)
  rw [map_rmv (fun e he z => xRi e C he hC z)] at h1
  refine wp_bd (X_leave h1.1 (by rw [List.length_map]; omega) (fun r hr => by
    obtain ⟨c, hc, rfl⟩ := List.mem_map.mp hr
    exact xR c (rmv_mem.mp hc).1) hq hN) (fun _ σ2 h2' => ?_)
  rw [map_rmv (fun e he z => xRi e D (rmv_mem.mp he).1 hD z)] at h2'
  have f02 : fr sSt (s28 σ n kd d A R C D) σ2 := fr_tr h1.2 h2'.2
  have rd1 : ∀ c k, ¬ sSt c k → σ2.1 c k = (s28 σ n kd d A R C D).1 c k := fun c k h => (f02 c k h).1
  have rd2 : ∀ c k, ¬ sSt c k → σ2.2 c k = (s28 σ n kd d A R C D).2 c k := fun c k h => (f02 c k h).2
  -- what s28 tells
  have a15 : (s28 σ n kd d A R C D).1 15 (R C) = aC A C ||| aC A D := by
    unfold s28 s28p; (repeat (first | rw [sJ_p] | rw [sI_p] | rw [sI_of (by omega)] | rw [sJ_of (by omega)])); exact sI_at
  have a15e : ∀ r, r ≠ R C → (s28 σ n kd d A R C D).1 15 r = σ.1 15 r := fun r hr => by
    unfold s28 s28p
    (repeat (first | rw [sJ_p] | rw [sI_p] | rw [sI_of (by omega)] | rw [sJ_of (by omega)]))
  have a14 : (s28 σ n kd d A R C D).1 14 (R C) = nI (n + aK A) := by unfold s28 s28p; exact sI_at
  have a14e : ∀ r, r ≠ R C → (s28 σ n kd d A R C D).1 14 r = σ.1 14 r := fun r hr => by
    unfold s28 s28p
    (repeat (first | rw [sJ_p] | rw [sI_p] | rw [sI_of (by omega)] | rw [sJ_of (by omega)]))
  have a16 : (s28 σ n kd d A R C D).2 16 (R C) = σ.2 16 (R C) + (σ.2 16 (R D) + σ.2 (80 + R C) (R D)) := by unfold s28 s28p; exact sJ_at
  have a16e : ∀ r, r ≠ R C → (s28 σ n kd d A R C D).2 16 r = σ.2 16 r := fun r hr => by
    unfold s28 s28p
    (repeat (first | rw [sJ_p] | rw [sI_p] | rw [sI_of (by omega)] | rw [sJ_of (by omega)]))
  have a80 : ∀ c k, 80 ≤ c → (s28 σ n kd d A R C D).2 c k = σ.2 c k := fun c k hc => by
    unfold s28 s28p
    (repeat (first | rw [sJ_p] | rw [sI_p] | rw [sI_of (by omega)] | rw [sJ_of (by omega)]))
  have a11 : ∀ k, (s28 σ n kd d A R C D).1 11 k = σ.1 11 k := fun k => by
    unfold s28 s28p
    (repeat (first | rw [sJ_p] | rw [sI_p] | rw [sI_of (by omega)] | rw [sJ_of (by omega)]))
  have ePC : aC (aJoin n kd d A C D (aS A)) (n + aK A) = aC A C ||| aC A D := if_pos rfl
  have sin : kd = 3 → (s28 σ n kd d A R C D).2 16 (R C) = lN (SI d (bc (aJoin n kd d A C D (aS A)) (n + aK A))) := fun k3 => by
    rw [a16, (x14 C hC).2.2 k3, (x14 D hD).2.2 k3, lcd.1, lN_add, lN_add]
    rw [SI_or hd.2.1 hd.2.2 (P := bc (aJoin n kd d A C D (aS A)) (n + aK A)) (fun i => jC_new i) (hI.2.2.2.2.2.1 C D hC hD hne)]
    congr 1
    show _ + (_ + VC kd d (dpt n A) (bc A C) (bc A D)) = _
    rw [VC_s (Or.inr k3)]
    omega
  refine wp_mono (X_join139 (s := aS A) hk hd hI h2 hC hD hne xR xRi h2'.1 (by rw [rd1 _ _ (by unfold sSt; omega), a11]; exact x1) (by rw [rd1 _ _ (by unfold sSt; omega), a15, ePC]) (fun e he => ?_) (fun k3 => by rw [rd2 _ _ (by unfold sSt; omega)]; exact sin k3) (fun k3 e he => ?_) (fun e he => ?_) (fun e he => ?_) hN) (fun _ σ' hh => ?_)
  · have hm := mem' e he
    rw [rd1 _ _ (by unfold sSt; omega), a15e _ (fun z => hm.2.1 (xRi e C hm.1 hC z))]; exact (x14 e hm.1).2.1
  · have hm := mem' e he
    rw [rd2 _ _ (by unfold sSt; omega), a16e _ (fun z => hm.2.1 (xRi e C hm.1 hC z))]; exact (x14 e hm.1).2.2 k3
  · have hm := mem' e he
    rw [rd2 _ _ (by unfold sSt; omega), a80 _ _ (by omega)]; exact (xl C e hC hm.1 (fun z => hm.2.1 z.symm)).1
  · have hm := mem' e he
    rw [rd2 _ _ (by unfold sSt; omega), a80 _ _ (by omega)]; exact (xl D e hD hm.1 (fun z => hm.2.2 z.symm)).1
  obtain ⟨g1, g2, g3, g4⟩ := hh
  have fA : fr (fun c k => sCo c k ∨ sSt c k) (s28 σ n kd d A R C D) σ' := fr_tr (fr_mo f02 (fun c k h => Or.inr h)) g2
  have b1 : ∀ c k, c < 80 → c ≠ 13 → c ≠ 11 ∨ k ≠ 6 → σ'.1 c k = (s28 σ n kd d A R C D).1 c k := fun c k h1 h2 h3 => (fA c k (by unfold sCo sSt; omega)).1
  have b2 : ∀ c k, c < 80 → c ≠ 13 → c ≠ 11 ∨ k ≠ 6 → σ'.2 c k = (s28 σ n kd d A R C D).2 c k := fun c k h1 h2 h3 => (fA c k (by unfold sCo sSt; omega)).2
  have nx' : ∀ c, c ∈ aF A → rJ R (n + aK A) C c = R c := fun c hc => if_neg (mem_lt hI hc)
  have nn' : rJ R (n + aK A) C (n + aK A) = R C := if_pos rfl
  have rne : ∀ c, c ∈ aF A → c ≠ C → R c ≠ R C := fun c hc h z => h (xRi c C hc hC z)
  have I1' : I1 n (aJoin n kd d A C D (aS A)) := hI.join hC hD hne
  refine ⟨⟨⟨?_, ?_, ?_, ?_⟩, ?_, ⟨?_, ?_⟩, ?_, ?_, ?_⟩, ?_⟩
  · rw [b1 _ _ (by omega) (by omega) (by omega), a11]; exact x0
  · rw [b1 _ _ (by omega) (by omega) (by omega), a11]; exact x1
  · rw [b1 _ _ (by omega) (by omega) (by omega), a11]; exact x2
  · rw [b1 _ _ (by omega) (by omega) (by omega)]
    show (s28 σ n kd d A R C D).1 22 0 = nI (aK A + 1)
    unfold s28 s28p
    (repeat (first | rw [sJ_p] | rw [sI_p] | rw [sI_of (by omega)] | rw [sJ_of (by omega)])); exact sI_at
  · have e : (aF (aJoin n kd d A C D (aS A))).map (rJ R (n + aK A) C) = (rmv D (rmv C (aF A))).map R ++ [R C] := by
      show (rmv D (rmv C (aF A)) ++ [n + aK A]).map _ = _
      rw [List.map_append]
      congr 1
      · exact List.map_congr_left (fun c hc => nx' c (mem' c hc).1)
      · show [rJ R (n + aK A) C (n + aK A)] = _
        rw [nn']
    rw [e]; exact g1
  · intro c hc
    rcases jF.mp hc with z | z
    · rw [nx' c z.1]; exact xR c z.1
    · rw [z, nn']; exact hp
  · intro c e hc he hr
    rcases jF.mp hc with z | z
    · rcases jF.mp he with y | y
      · rw [nx' c z.1, nx' e y.1] at hr; exact xRi c e z.1 y.1 hr
      · rw [nx' c z.1, y, nn'] at hr; exact absurd hr (rne c z.1 z.2.1)
    · rcases jF.mp he with y | y
      · rw [nx' e y.1, z, nn'] at hr; exact absurd hr.symm (rne e y.1 y.2.1)
      · rw [z, y]
  · intro c hc
    rcases jF.mp hc with z | z
    · rw [nx' c z.1]
      have hr := rne c z.1 z.2.1
      rw [b1 _ _ (by omega) (by omega) (by omega), b1 _ _ (by omega) (by omega) (by omega), b2 _ _ (by omega) (by omega) (by omega), a14e _ hr, a15e _ hr, a16e _ hr, jC_old (mem_lt hI z.1)]
      have ec : aC (aJoin n kd d A C D (aS A)) c = aC A c := if_neg (mem_lt hI z.1)
      rw [ec]
      exact x14 c z.1
    · rw [z, nn', b1 _ _ (by omega) (by omega) (by omega), b1 _ _ (by omega) (by omega) (by omega), b2 _ _ (by omega) (by omega) (by omega), a14, a15, ePC]
      exact ⟨rfl, rfl, sin⟩
  · intro c e hc he hce
    rcases jF.mp hc with z | z
    · rcases jF.mp he with y | y
      · rw [nx' c z.1, nx' e y.1]
        have o := g4 (R c) (R e) (xR c z.1) (rne c z.1 z.2.1) (rne e y.1 y.2.1)
        have u := jT_old (s := aS A) (kd := kd) (d := d) hI hC hD z.1 z.2.1 z.2.2 y.1 y.2.1 y.2.2
        rw [o.1, o.2.1, o.2.2, rd2 _ _ (by unfold sSt; omega), rd2 _ _ (by unfold sSt; omega), rd2 _ _ (by unfold sSt; omega), a80 _ _ (by omega), a80 _ _ (by omega), a80 _ _ (by omega), u.1, u.2.1, u.2.2]
        exact xl c e z.1 y.1 hce
      · rw [nx' c z.1, y, nn']
        have o := (g3 c (rmv_mem.mpr ⟨rmv_mem.mpr ⟨z.1, z.2.1⟩, z.2.2⟩)).2
        have mn : (n + aK A) ∈ aF (aJoin n kd d A C D (aS A)) := jF.mpr (Or.inr rfl)
        have sy : uC n kd d (aJoin n kd d A C D (aS A)) c (n + aK A) = uC n kd d (aJoin n kd d A C D (aS A)) (n + aK A) c := VC_sym hk hd.2.1 (I1'.s20 hc) (I1'.s20 mn) (I1'.nem hc) (I1'.nem mn)
        rw [sy, uT_sym hk hd I1' hc mn, uB_sym (c := c)]
        exact o
    · rcases jF.mp he with y | y
      · rw [nx' e y.1, z, nn']
        exact (g3 e (rmv_mem.mpr ⟨rmv_mem.mpr ⟨y.1, y.2.1⟩, y.2.2⟩)).1
      · exact absurd (z.trans y.symm) hce
  · intro k hk'
    have hk'' : k < aK A + 1 := hk'
    rw [b1 _ _ (by omega) (by omega) (by omega), b1 _ _ (by omega) (by omega) (by omega), b1 _ _ (by omega) (by omega) (by omega), b2 _ _ (by omega) (by omega) (by omega), b2 _ _ (by omega) (by omega) (by omega)]
    unfold s28 s28p
    by_cases e : k = aK A
    · subst e
      rw [jA_new.1, jA_new.2.1, jA_new.2.2.1, jA_new.2.2.2, ePC]
      refine ⟨?_, ?_, ?_, ?_, ?_⟩
      · (repeat (first | rw [sJ_p] | rw [sI_p] | rw [sI_of (by omega)] | rw [sJ_of (by omega)])); exact sI_at
      · (repeat (first | rw [sJ_p] | rw [sI_p] | rw [sI_of (by omega)] | rw [sJ_of (by omega)])); exact sI_at
      · (repeat (first | rw [sJ_p] | rw [sI_p] | rw [sI_of (by omega)] | rw [sJ_of (by omega)])); exact sI_at
      · (repeat (first | rw [sJ_p] | rw [sI_p] | rw [sI_of (by omega)] | rw [sJ_of (by omega)])); exact sJ_at
      · (repeat (first | rw [sJ_p] | rw [sI_p] | rw [sI_of (by omega)] | rw [sJ_of (by omega)])); exact sJ_at
    · have hk2 : k < aK A := by omega
      have x := xm k hk2
      have ec : aC (aJoin n kd d A C D (aS A)) (n + k) = aC A (n + k) := if_neg (by omega)
      rw [(jA_old e).1, (jA_old e).2.1, (jA_old e).2.2.1, (jA_old e).2.2.2, ec]
      refine ⟨?_, ?_, ?_, ?_, ?_⟩
      · (repeat (first | rw [sJ_p] | rw [sI_p] | rw [sI_of (by omega)] | rw [sJ_of (by omega)])); exact x.1
      · (repeat (first | rw [sJ_p] | rw [sI_p] | rw [sI_of (by omega)] | rw [sJ_of (by omega)])); exact x.2.1
      · (repeat (first | rw [sJ_p] | rw [sI_p] | rw [sI_of (by omega)] | rw [sJ_of (by omega)])); exact x.2.2.1
      · (repeat (first | rw [sJ_p] | rw [sI_p] | rw [sI_of (by omega)] | rw [sJ_of (by omega)])); exact x.2.2.2.1
      · (repeat (first | rw [sJ_p] | rw [sI_p] | rw [sI_of (by omega)] | rw [sJ_of (by omega)])); exact x.2.2.2.2
  · exact fr_tr f28 (fr_mo fA (fun c k h => by unfold sCo sSt at h; unfold sJj; omega))
end
