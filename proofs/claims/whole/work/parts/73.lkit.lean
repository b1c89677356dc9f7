/-! THE LAW: kit. Two worlds side by side; a call changes its own. -/
theorem Wi.swap {D : va_G} {A : Nat → Prop} {s : State} {a b : va_W} {H : Heap} {locs : List Loc} (h : Wi D A s (a ++ b) H locs) : Wi D A s (b ++ a) H locs := ⟨va_P.swap (a := []) h.1, va_D.swap (a := []) h.2.1, h.2.2⟩
theorem D_fst {A : Nat → Prop} {w w' : va_W} (e : w.map Prod.fst = w'.map Prod.fst) (h : va_D A w) : va_D A w' := by
  have key : ∀ (k : Nat) (q : Nat × va_E), w'[k]? = some q → ∃ q', w[k]? = some q' ∧ q'.1 = q.1 := by
    intro k q hk
    have h1 : (w'.map Prod.fst)[k]? = some q.1 := by rw [List.getElem?_map, hk]; rfl
    rw [← e, List.getElem?_map] at h1
    cases h2 : w[k]? with
    | none => rw [h2] at h1; cases h1
    | some q' => rw [h2] at h1; exact ⟨q', rfl, Option.some.inj h1⟩
  refine ⟨fun i j p q hi hj hpq => ?_, fun k q hk => ?_⟩
  · obtain ⟨p', h1, e1⟩ := key i p hi
    obtain ⟨q', h2, e2⟩ := key j q hj
    exact h.1 i j p' q' h1 h2 (e1.trans (hpq.trans e2.symm))
  · obtain ⟨q', h1, e1⟩ := key k q hk
    rw [← e1]
    exact h.2 k q' h1
theorem wl_fst {kd : Nat → Kd} {N : Nat} {ad : Nat → Nat} {cA : Nat → ClassId} (σ σ' : St) : (wl kd N ad cA σ).map Prod.fst = (wl kd N ad cA σ').map Prod.fst := by
  unfold wl
  rw [List.map_map, List.map_map]
  rfl
theorem wl_len {kd : Nat → Kd} {N : Nat} {ad : Nat → Nat} {cA : Nat → ClassId} {σ : St} : (wl kd N ad cA σ).length = N := by simp [wl]
section LKIT
variable {kd : Nat → Kd} {N : Nat} {D : va_G} {cA : Nat → ClassId} {ad : Nat → Nat} {σ σ' : St} {A : Nat → Prop} {w2 : va_W}
variable {p : Program} {l : Launch} {e : Env} {R : Room} {s : State} {m : MethodId} {args : Array Value} {below : List Frame} {meth : Method} {c : Code} {H : Heap} {locs : List Loc} {Q : State → Prop} {cells slots : Nat}
variable {own : String} {cc : ByteArray} {nL : Nat} {rt : Option FieldType} {pc : Nat} {ls : Array Slot} {rest st : List Value}
theorem wl_l {b : Nat} (hb : b < N) : (wl kd N ad cA σ ++ w2)[b]? = some (ad b, ent kd ad cA σ b) := by
  rw [List.getElem?_append_left (by rw [wl_len]; exact hb), wl_get hb]
theorem wl_r {k : Nat} : (wl kd N ad cA σ ++ w2)[N + k]? = w2[k]? := by
  rw [List.getElem?_append_right (by rw [wl_len]; omega), wl_len, Nat.add_sub_cancel_left]
theorem Wi.mine (hW : Wi D A s (wl kd N ad cA σ ++ w2) H locs) : va_P D classes (wl kd N ad cA σ) H ∧ va_D (Aw N ad) (wl kd N ad cA σ) := by
  refine ⟨fun k q hk => ?_, fun i j x y hi hj hxy => ?_, fun k q hk => ?_⟩
  · exact hW.1 k q (by rw [List.getElem?_append_left (List.getElem?_eq_some_iff.mp hk).1]; exact hk)
  · exact hW.2.1.1 i j x y (by rw [List.getElem?_append_left (List.getElem?_eq_some_iff.mp hi).1]; exact hi) (by rw [List.getElem?_append_left (List.getElem?_eq_some_iff.mp hj).1]; exact hj) hxy
  · have h1 := (List.getElem?_eq_some_iff.mp hk).1
    rw [wl_len] at h1
    rw [wl_get h1] at hk
    cases hk
    exact ⟨k, h1, rfl⟩
theorem Wi.back {A1 : Array Value} {rv : Option Value} (hr : va_Run p l e R s m args below meth c H locs cells slots 0 0 (F0 m pc ls st) rest (QW kd N D cA ad rv σ' A1) (Aw N ad)) (hW : Wi D A s (wl kd N ad cA σ ++ w2) H locs)
    (kk : ∀ (H : Heap) (locs : List Loc), Wi D A s (wl kd N ad cA σ' ++ w2) H locs → W p l e R s m args below meth c H locs cells slots Q (F0 m (pc + 3) ls (rv.toList ++ rest))) : W p l e R s m args below meth c H locs cells slots Q (F0 m pc ls st) := by
  have hAw : ∀ q, Aw N ad q → A q := by
    rintro q ⟨b, hb, rfl⟩
    exact hW.2.1.2 b _ (wl_l hb)
  have hsep : ∀ (k : Nat) (x : Nat × va_E), w2[k]? = some x → ¬ Aw N ad x.1 := by
    rintro k x hk ⟨b, hb, e⟩
    have h9 := hW.2.1.1 b (N + k) _ x (wl_l hb) (by rw [wl_r]; exact hk) e.symm
    omega
  have hP2 : va_P D classes w2 H := fun k x hx => hW.1 (N + k) x (by rw [wl_r]; exact hx)
  intro T hT X
  obtain ⟨v, st₀, t, T', L, h0, X', hL, e1, e2, ⟨hv, ⟨hP, hK, hD, hN⟩, hz, hk⟩, st⟩ := hr T hT X
  cases hv
  rw [h0] at hz hk
  have hP3 : va_P D classes w2 T'.heap := hP2.kept (fun k x hx => by rw [e1]; exact hk x.1 (hP2 k x hx).lt (hsep k x hx))
  have hP4 : va_P D classes (wl kd N ad cA σ') T'.heap := by rw [e1]; exact hP
  obtain ⟨t2, a1, b1⟩ := kk T'.heap (locs ++ L) ⟨hP4.app hP3, D_fst (by rw [List.map_append, List.map_append, wl_fst σ σ']) hW.2.1, Nat.le_trans hW.2.2.1 (by rw [e1]; exact hz), fun q h1 h2 => by rw [e1, hk q (Nat.lt_of_lt_of_le h1 hW.2.2.1) (fun h => h2 (hAw q h))]; exact hW.2.2.2.1 q h1 h2, fun q hq => by
      rcases List.mem_append.mp hq with h | h
      · exact hW.2.2.2.2 q h
      · exact hAw _ (hL q h)⟩ T' rfl X'
  exact ⟨t2, st t2 a1, b1⟩
theorem Wi.callM (hC : Cx own cc nL rt D cA p s m args meth c) (hW : Wi D A s (wl kd N ad cA σ ++ w2) H locs) {C nm ds : String} {bytes : ByteArray} {maxL index n : Nat} {ret : Option FieldType} {rm : Room} {As : List Value} {rv : Option Value} (b : Nat) {ci NN : Nat} {fl : List Nat} {T : u_T}
    (hM : MW kd N l D cA ad ⟨C, nm, ds⟩ bytes maxL ret rm (.ref (ad b) :: As) σ rv σ') (hb : b < N) (hkd : kd b = .inr (ci, fl)) (hcl : classes[ci]? = some (C, T, NN))
    (w1 : Cond.methodLink own index ⟨C, nm, ds⟩ ∈ lw_good) (v2 : Cond.instanceMethod ⟨C, nm, ds⟩ ∈ lw_good) (w3 : Cond.selects C ⟨C, nm, ds⟩ ⟨C, nm, ds⟩ ∈ lw_good) (w4 : Cond.initialized C ∈ lw_good) (w5 : Cond.code ⟨C, nm, ds⟩ bytes maxL ret ∈ lw_good)
    (hrm : rm.cells = 0 ∧ rm.slots = 0) (hd : C ≠ "java/lang/invoke/MethodHandle" ∧ C ≠ "java/lang/invoke/VarHandle" ∧ (parseMethodDescriptor ds).map (fun d => d.parameters.length) = some n) (hR : rm.frames + 1 ≤ R.frames ∧ 8 + (maxL + 11) + rm.locals ≤ R.locals)
    (hcs : cells ≤ R.cells ∧ slots ≤ R.slots) (hn : As.length = n) (hls : ls.size = nL) (hst : st = As.reverse ++ .ref (ad b) :: rest) {st2 : List Value} (hst2 : rv.toList ++ rest = st2) (hrest : (rest.map fun v => v.category).sum ≤ 8) (hdg : decode cc pc = .ok (.invokevirtual index, 3))
    (kk : ∀ (H : Heap) (locs : List Loc), Wi D A s (wl kd N ad cA σ' ++ w2) H locs → W p l e R s m args below meth c H locs cells slots Q (F0 m (pc + 3) ls st2)) : W p l e R s m args below meth c H locs cells slots Q (F0 m pc ls st) := by
  subst hst2
  have ho := hW.mine
  refine Wi.back (rest := rest) (va_runV (As := As) (rest := rest) (n := n) ⟨hC.1, hC.2.1, hC.2.2.1, hC.2.2.2.1, hC.2.2.2.2.1⟩ hM (C := C) (index := index) ⟨callB_of n hC.2.2.2.2.1 (wc_good w5) rfl hrm.1 hrm.2 (hC.2.2.2.2.1 _ w4) (hC.2.2.2.2.1 _ w1) hd hR, hC.2.2.2.2.1 _ v2, hC.2.2.2.2.1 _ w3⟩ ⟨PreW.blind, va_recv hC.2.2.2.2.2.2.1 hW.1 (q := (C, T, NN)) (ci := ci) (q0 := b) hcl (fs := fvl ad (σ.1 b) (σ.2 b) 0 fl) (by rw [wl_l hb]; unfold ent; rw [hkd]; rfl), fun U hU hWm => ⟨rfl, by rw [hU]; exact ho.1, va_K.moved hWm.alike hC.2.2.2.2.2.2.1, ho.2, Nws.warm hWm hC.2.2.2.2.2.1⟩⟩ rfl hn hls hst (lv_room hrest) hdg ⟨hcs.1, hcs.2⟩) hW kk
/-- a word of the script -/
theorem Lw.ld (hC : Cx own cc nL rt D cA p s m args meth c) {b L : Nat} {xs : Nat → Int32} (hX : va_X b L xs s s.heap) (hbl : b < s.heap.size) (hbA : ¬ A b) (hS : va_S A s.heap H locs) {i k v : Int32} {n : Int} {x y : Nat} (hl : lv_has ls nL [(3, .int i), (2, .ref x), (1, .ref y), (0, .ref b)]) (hk : Int32.ofInt n = k) (hin : vp_in (i + k) L) (hv : xs (i + k).toNatClampNeg = v)
    (d0 : decode cc pc = .ok (.aload_n 0, 1)) (d1 : decode cc (pc + 1) = .ok (.iload_n 3, 1)) (d2 : decode cc (pc + 2) = .ok (.iconst n, 1)) (d3 : decode cc (pc + 3) = .ok (.iadd, 1)) (d4 : decode cc (pc + 4) = .ok (.iaload, 1))
    (kk : W p l e R s m args below meth c H locs cells slots Q (F0 m (pc + 5) ls (.int v :: rest))) : W p l e R s m args below meth c H locs cells slots Q (F0 m pc ls rest) := by
  subst hv
  have hx := hC.1
  have hb := hC.2.1
  refine lv_aload_n hx hb d0 rfl (lv_at hl 3 rfl) ?_
  refine lv_iload_n hx hb d1 rfl (lv_at hl 0 rfl) ?_
  refine lv_iconst (v := k) hx hb d2 hk ?_
  refine lv_iadd hx hb d3 ?_
  exact va_sld hx hb hX hbl hbA hS hin d4 kk
end LKIT
