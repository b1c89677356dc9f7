/-! THE LAW: its tables, its loop, its start (printed by wip/whole/gen/start.py) -/
theorem ql131 : (Jvm.Cond.arrayClass Jvm.ClassFile.FieldType.long) ∈ lw_good := List.mem_filter.mpr ⟨List.mem_of_getElem? (i := 199) (by decide +kernel), by decide +kernel⟩
theorem ql14 : (Jvm.Cond.classLink "DendroDeskLaw" (7 : Nat) "DendroDesk") ∈ lw_good := List.mem_filter.mpr ⟨List.mem_of_getElem? (i := 82) (by decide +kernel), by decide +kernel⟩
theorem ql15 : (Jvm.Cond.instantiable "DendroDesk" (6 : Nat)) ∈ lw_good := List.mem_filter.mpr ⟨List.mem_of_getElem? (i := 83) (by decide +kernel), by decide +kernel⟩
theorem ql16 : (Jvm.Cond.methodLink "DendroDeskLaw" (9 : Nat) ({ cls := "DendroDesk", name := "<init>", desc := "()V" } : Jvm.MethodName)) ∈ lw_good := List.mem_filter.mpr ⟨List.mem_of_getElem? (i := 84) (by decide +kernel), by decide +kernel⟩
theorem ql17 : (Jvm.Cond.instanceMethod ({ cls := "DendroDesk", name := "<init>", desc := "()V" } : Jvm.MethodName)) ∈ lw_good := List.mem_filter.mpr ⟨List.mem_of_getElem? (i := 85) (by decide +kernel), by decide +kernel⟩
theorem ql18 : (Jvm.Cond.code ({ cls := "DendroDesk", name := "<init>", desc := "()V" } : Jvm.MethodName) prog_1_method_1_code (2 : Nat) (Option.none : Option Jvm.ClassFile.FieldType)) ∈ lw_good := List.mem_filter.mpr ⟨List.mem_of_getElem? (i := 86) (by decide +kernel), by decide +kernel⟩
theorem ql182 : (Jvm.Cond.instantiable "DendroDesk$Tree" (7 : Nat)) ∈ lw_good := List.mem_filter.mpr ⟨List.mem_of_getElem? (i := 250) (by decide +kernel), by decide +kernel⟩
theorem ql23 : (Jvm.Cond.instantiable "DendroDesk$Points" (4 : Nat)) ∈ lw_good := List.mem_filter.mpr ⟨List.mem_of_getElem? (i := 91) (by decide +kernel), by decide +kernel⟩
theorem ql49 : (Jvm.Cond.arrayClass Jvm.ClassFile.FieldType.int) ∈ lw_good := List.mem_filter.mpr ⟨List.mem_of_getElem? (i := 117) (by decide +kernel), by decide +kernel⟩
theorem ql51 : (Jvm.Cond.instantiable "DendroDesk$Bytes" (2 : Nat)) ∈ lw_good := List.mem_filter.mpr ⟨List.mem_of_getElem? (i := 119) (by decide +kernel), by decide +kernel⟩
theorem ql629 : (Jvm.Cond.classLink "DendroDeskLaw" (10 : Nat) "DendroDeskModel") ∈ lw_good := List.mem_filter.mpr ⟨List.mem_of_getElem? (i := 697) (by decide +kernel), by decide +kernel⟩
theorem ql630 : (Jvm.Cond.instantiable "DendroDeskModel" (39 : Nat)) ∈ lw_good := List.mem_filter.mpr ⟨List.mem_of_getElem? (i := 698) (by decide +kernel), by decide +kernel⟩
theorem ql631 : (Jvm.Cond.methodLink "DendroDeskLaw" (12 : Nat) ({ cls := "DendroDeskModel", name := "<init>", desc := "()V" } : Jvm.MethodName)) ∈ lw_good := List.mem_filter.mpr ⟨List.mem_of_getElem? (i := 699) (by decide +kernel), by decide +kernel⟩
theorem ql632 : (Jvm.Cond.instanceMethod ({ cls := "DendroDeskModel", name := "<init>", desc := "()V" } : Jvm.MethodName)) ∈ lw_good := List.mem_filter.mpr ⟨List.mem_of_getElem? (i := 700) (by decide +kernel), by decide +kernel⟩
theorem ql633 : (Jvm.Cond.code ({ cls := "DendroDeskModel", name := "<init>", desc := "()V" } : Jvm.MethodName) prog_10_method_1_code (1 : Nat) (Option.none : Option Jvm.ClassFile.FieldType)) ∈ lw_good := List.mem_filter.mpr ⟨List.mem_of_getElem? (i := 701) (by decide +kernel), by decide +kernel⟩
theorem ql65 : (Jvm.Cond.arrayClass Jvm.ClassFile.FieldType.byte) ∈ lw_good := List.mem_filter.mpr ⟨List.mem_of_getElem? (i := 133) (by decide +kernel), by decide +kernel⟩
theorem ql67 : (Jvm.Cond.instantiable "DendroDesk$TableReader" (3 : Nat)) ∈ lw_good := List.mem_filter.mpr ⟨List.mem_of_getElem? (i := 135) (by decide +kernel), by decide +kernel⟩
theorem ql753 : (Jvm.Cond.arrayClass Jvm.ClassFile.FieldType.boolean) ∈ lw_good := List.mem_filter.mpr ⟨List.mem_of_getElem? (i := 821) (by decide +kernel), by decide +kernel⟩
theorem ql85 : (Jvm.Cond.instantiable "DendroDesk$Joining" (15 : Nat)) ∈ lw_good := List.mem_filter.mpr ⟨List.mem_of_getElem? (i := 153) (by decide +kernel), by decide +kernel⟩
theorem ql91 : (Jvm.Cond.instantiable "DendroDesk$Steps" (6 : Nat)) ∈ lw_good := List.mem_filter.mpr ⟨List.mem_of_getElem? (i := 159) (by decide +kernel), by decide +kernel⟩
theorem qo133 : (Jvm.Cond.arrayOver (Jvm.ClassFile.FieldType.array Jvm.ClassFile.FieldType.long)) ∈ lw_tbl := List.mem_of_getElem? (i := 201) (by decide +kernel)
theorem qo181 : (Jvm.Cond.arrayOver (Jvm.ClassFile.FieldType.object "DendroDesk$Tree")) ∈ lw_tbl := List.mem_of_getElem? (i := 249) (by decide +kernel)
theorem qo29 : (Jvm.Cond.arrayOver (Jvm.ClassFile.FieldType.array Jvm.ClassFile.FieldType.int)) ∈ lw_tbl := List.mem_of_getElem? (i := 97) (by decide +kernel)
theorem lg_exit {i L : Nat} (h : L < i + 6) (hi : i < 2000000000) (hL : L < 1000000000) : nI i > Int32.ofNat L - 6 := by
  show nI L - 6 < nI i
  rw [Int32.lt_iff_toInt_lt, Int32.toInt_sub, nI_toInt (by omega), nI_toInt (by omega)]
  have e6 : (6 : Int32).toInt = 6 := by decide
  rw [e6, Int.bmod_eq_of_le (by omega) (by omega)]
  omega
theorem arr_of {s : State} {a comp : ClassId} {k : Class} {ty : FieldType} (hk : s.vm.classes[a]? = some k) (hkind : k.kind = .array comp ty) : ArrOfT s a ty := fun _ _ => ⟨(fun _ h => by cases h), k, hk, comp, hkind⟩
theorem tys_ok {s : State} {args : Array Value} (hts : ∀ w ∈ lw_tbl, w.before args s = true) : ∃ (D : va_G) (cA : Nat → ClassId), va_K D classes (tysOf cA) s ∧ AOs s := by
  have hg : ∀ w ∈ lw_good, w.before args s = true := fun w hw => hts w (lw_gt w hw)
  obtain ⟨c0, i0, k0⟩ := u_known (C := RX0) (T := TX0) (N := 2) (n := 2) hg inX0_g (hg _ ql51)
  obtain ⟨c1, i1, k1⟩ := u_known (C := RX1) (T := TX1) (N := 15) (n := 15) hg inX1_g (hg _ ql85)
  obtain ⟨c3, i3, k3⟩ := u_known (C := RX3) (T := TX3) (N := 4) (n := 4) hg inX3_g (hg _ ql23)
  obtain ⟨c4, i4, k4⟩ := u_known (C := RX4) (T := TX4) (N := 6) (n := 6) hg inX4_g (hg _ ql91)
  obtain ⟨c5, i5, k5⟩ := u_known (C := RX5) (T := TX5) (N := 3) (n := 3) hg inX5_g (hg _ ql67)
  obtain ⟨c6, i6, k6⟩ := u_known (C := RX6) (T := TX6) (N := 7) (n := 7) hg inX6_g (hg _ ql182)
  obtain ⟨c7, i7, k7⟩ := u_known (C := RX7) (T := TX7) (N := 6) (n := 6) hg inX7_g (hg _ ql15)
  obtain ⟨c8, i8, k8⟩ := u_known (C := RX8) (T := TX8) (N := 39) (n := 39) hg inX8_g (hg _ ql630)
  obtain ⟨a0, ka0, cm0, fa0, ha0, hk0⟩ := Cond.arrayClass_spec (hg _ ql49)
  obtain ⟨a1, ka1, cm1, fa1, ha1, hk1⟩ := Cond.arrayClass_spec (hg _ ql65)
  obtain ⟨a2, ka2, cm2, fa2, ha2, hk2⟩ := Cond.arrayClass_spec (hg _ ql753)
  obtain ⟨a3, ka3, cm3, fa3, ha3, hk3⟩ := Cond.arrayClass_spec (hg _ ql131)
  obtain ⟨cm4, a4, ka4, gc4, gi4, ha4, hk4, fa4⟩ := arrayOverA_spec (hts _ qo29)
  obtain ⟨cm5, a5, ka5, gc5, gi5, ha5, hk5, fa5⟩ := arrayOverA_spec (hts _ qo133)
  obtain ⟨cm6, a6, ka6, gc6, gi6, ha6, hk6, fa6⟩ := Cond.arrayOver_spec (hts _ qo181)
  refine ⟨(fun c => [c0, c1, c0, c3, c4, c5, c6, c7, c8].getD c c0, fun c => [i0, i1, i0, i3, i4, i5, i6, i7, i8].getD c i0), fun t => [a0, a1, a2, a3, a4, a5, a6].getD t a0, ⟨fun c q h => ?_, fun k q h => ?_⟩, ⟨fun _ => hts _ qo29, fun _ => hts _ qo133, hts _ qo181⟩⟩
  · match c, h with
    | 0, h => cases h; exact k0
    | 1, h => cases h; exact k1
    | 2, h => cases h; exact k0
    | 3, h => cases h; exact k3
    | 4, h => cases h; exact k4
    | 5, h => cases h; exact k5
    | 6, h => cases h; exact k6
    | 7, h => cases h; exact k7
    | 8, h => cases h; exact k8
    | n + 9, h => exact absurd h (by simp)
  · match k, h with
    | 0, h => cases h; exact ⟨arr_of ha0 hk0, fa0⟩
    | 1, h => cases h; exact ⟨arr_of ha1 hk1, fa1⟩
    | 2, h => cases h; exact ⟨arr_of ha2 hk2, fa2⟩
    | 3, h => cases h; exact ⟨arr_of ha3 hk3, fa3⟩
    | 4, h => cases h; exact ⟨arr_of ha4 hk4, fa4⟩
    | 5, h => cases h; exact ⟨arr_of ha5 hk5, fa5⟩
    | 6, h => cases h; exact ⟨arr_of ha6 hk6, ka6, cm6, ha6, hk6, gc6, fa6⟩
    | n + 7, h => exact absurd h (by simp)
section LAW
variable {D : va_G} {cA : Nat → ClassId} {A : Nat → Prop} {a7 a8 : Nat → Nat} {σ τ : St} {b L : Nat} {xs : Nat → Int32}
variable {p : Program} {l : Launch} {e : Env} {R : Room} {s : State} {m : MethodId} {args : Array Value} {below : List Frame} {meth : Method} {c : Code} {H : Heap} {locs : List Loc} {Q : State → Prop} {cells slots : Nat}
variable {rt : Option FieldType} {ls : Array Slot}
set_option maxHeartbeats 2000000 in
set_option maxRecDepth 100000 in
theorem law_switch {i : Int32} (hC : Cx R_law cL_law 4 rt D cA p s m args meth c) (hX : va_X b L xs s s.heap) (hbl : b < s.heap.size) (hbA : ¬ A b) (hW : Wi D A s (wl kdX 140 a7 cA σ ++ wl kdM 31 a8 cA τ) H locs) (hl : lv_has ls 4 [(3, .int i), (2, .ref (a8 0)), (1, .ref (a7 0)), (0, .ref b)]) (hin : ∀ k : Int32, 0 ≤ k → k ≤ 5 → vp_in (i + k) L) (h : Rel σ τ) (hR : 2048 ≤ R.frames ∧ 84000 ≤ R.locals) (hcs : cells ≤ R.cells ∧ slots ≤ R.slots)
    (kk : ∀ (σ τ : St) (H : Heap) (locs : List Loc), Rel σ τ → Wi D A s (wl kdX 140 a7 cA σ ++ wl kdM 31 a8 cA τ) H locs → W p l e R s m args below meth c H locs cells slots Q (F0 m 1029 ls [])) (x : Int32) : W p l e R s m args below meth c H locs cells slots Q (F0 m 33 ls [.int x]) := by
  have hx := hC.1
  have hb := hC.2.1
  by_cases h1 : x.toInt < 0 ∨ 26 < x.toInt
  · exact lv_tableOut (tgt := 1029) hx hb dL_law_33 h1 (by decide) (kk σ τ H locs h hW)
  · have h2 : x.toInt = 0 ∨ x.toInt = 1 ∨ x.toInt = 2 ∨ x.toInt = 3 ∨ x.toInt = 4 ∨ x.toInt = 5 ∨ x.toInt = 6 ∨ x.toInt = 7 ∨ x.toInt = 8 ∨ x.toInt = 9 ∨ x.toInt = 10 ∨ x.toInt = 11 ∨ x.toInt = 12 ∨ x.toInt = 13 ∨ x.toInt = 14 ∨ x.toInt = 15 ∨ x.toInt = 16 ∨ x.toInt = 17 ∨ x.toInt = 18 ∨ x.toInt = 19 ∨ x.toInt = 20 ∨ x.toInt = 21 ∨ x.toInt = 22 ∨ x.toInt = 23 ∨ x.toInt = 24 ∨ x.toInt = 25 ∨ x.toInt = 26 := by omega
    rcases h2 with h2 | h2 | h2 | h2 | h2 | h2 | h2 | h2 | h2 | h2 | h2 | h2 | h2 | h2 | h2 | h2 | h2 | h2 | h2 | h2 | h2 | h2 | h2 | h2 | h2 | h2 | h2
    · exact lv_tableIn (tgt := 156) hx hb dL_law_33 (by rw [h2]; decide) (by rw [h2]; decide) (off := 123) (by rw [h2]; rfl) (by decide) (lc_0 hC hX hbl hbA hW hl hin h hR hcs kk)
    · exact lv_tableIn (tgt := 179) hx hb dL_law_33 (by rw [h2]; decide) (by rw [h2]; decide) (off := 146) (by rw [h2]; rfl) (by decide) (lc_1 hC hX hbl hbA hW hl hin h hR hcs kk)
    · exact lv_tableIn (tgt := 222) hx hb dL_law_33 (by rw [h2]; decide) (by rw [h2]; decide) (off := 189) (by rw [h2]; rfl) (by decide) (lc_2 hC hX hbl hbA hW hl hin h hR hcs kk)
    · exact lv_tableIn (tgt := 255) hx hb dL_law_33 (by rw [h2]; decide) (by rw [h2]; decide) (off := 222) (by rw [h2]; rfl) (by decide) (lc_3 hC hX hbl hbA hW hl hin h hR hcs kk)
    · exact lv_tableIn (tgt := 298) hx hb dL_law_33 (by rw [h2]; decide) (by rw [h2]; decide) (off := 265) (by rw [h2]; rfl) (by decide) (lc_4 hC hX hbl hbA hW hl hin h hR hcs kk)
    · exact lv_tableIn (tgt := 321) hx hb dL_law_33 (by rw [h2]; decide) (by rw [h2]; decide) (off := 288) (by rw [h2]; rfl) (by decide) (lc_5 hC hX hbl hbA hW hl hin h hR hcs kk)
    · exact lv_tableIn (tgt := 384) hx hb dL_law_33 (by rw [h2]; decide) (by rw [h2]; decide) (off := 351) (by rw [h2]; rfl) (by decide) (lc_6 hC hX hbl hbA hW hl hin h hR hcs kk)
    · exact lv_tableIn (tgt := 407) hx hb dL_law_33 (by rw [h2]; decide) (by rw [h2]; decide) (off := 374) (by rw [h2]; rfl) (by decide) (lc_7 hC hX hbl hbA hW hl hin h hR hcs kk)
    · exact lv_tableIn (tgt := 420) hx hb dL_law_33 (by rw [h2]; decide) (by rw [h2]; decide) (off := 387) (by rw [h2]; rfl) (by decide) (lc_8 hC hX hbl hbA hW hl hin h hR hcs kk)
    · exact lv_tableIn (tgt := 433) hx hb dL_law_33 (by rw [h2]; decide) (by rw [h2]; decide) (off := 400) (by rw [h2]; rfl) (by decide) (lc_9 hC hX hbl hbA hW hl hin h hR hcs kk)
    · exact lv_tableIn (tgt := 446) hx hb dL_law_33 (by rw [h2]; decide) (by rw [h2]; decide) (off := 413) (by rw [h2]; rfl) (by decide) (lc_10 hC hX hbl hbA hW hl hin h hR hcs kk)
    · exact lv_tableIn (tgt := 459) hx hb dL_law_33 (by rw [h2]; decide) (by rw [h2]; decide) (off := 426) (by rw [h2]; rfl) (by decide) (lc_11 hC hX hbl hbA hW hl hin h hR hcs kk)
    · exact lv_tableIn (tgt := 482) hx hb dL_law_33 (by rw [h2]; decide) (by rw [h2]; decide) (off := 449) (by rw [h2]; rfl) (by decide) (lc_12 hC hX hbl hbA hW hl hin h hR hcs kk)
    · exact lv_tableIn (tgt := 536) hx hb dL_law_33 (by rw [h2]; decide) (by rw [h2]; decide) (off := 503) (by rw [h2]; rfl) (by decide) (lc_13 hC hX hbl hbA hW hl hin h hR hcs kk)
    · exact lv_tableIn (tgt := 569) hx hb dL_law_33 (by rw [h2]; decide) (by rw [h2]; decide) (off := 536) (by rw [h2]; rfl) (by decide) (lc_14 hC hX hbl hbA hW hl hin h hR hcs kk)
    · exact lv_tableIn (tgt := 602) hx hb dL_law_33 (by rw [h2]; decide) (by rw [h2]; decide) (off := 569) (by rw [h2]; rfl) (by decide) (lc_15 hC hX hbl hbA hW hl hin h hR hcs kk)
    · exact lv_tableIn (tgt := 635) hx hb dL_law_33 (by rw [h2]; decide) (by rw [h2]; decide) (off := 602) (by rw [h2]; rfl) (by decide) (lc_16 hC hX hbl hbA hW hl hin h hR hcs kk)
    · exact lv_tableIn (tgt := 678) hx hb dL_law_33 (by rw [h2]; decide) (by rw [h2]; decide) (off := 645) (by rw [h2]; rfl) (by decide) (lc_17 hC hX hbl hbA hW hl hin h hR hcs kk)
    · exact lv_tableIn (tgt := 722) hx hb dL_law_33 (by rw [h2]; decide) (by rw [h2]; decide) (off := 689) (by rw [h2]; rfl) (by decide) (lc_18 hC hX hbl hbA hW hl hin h hR hcs kk)
    · exact lv_tableIn (tgt := 765) hx hb dL_law_33 (by rw [h2]; decide) (by rw [h2]; decide) (off := 732) (by rw [h2]; rfl) (by decide) (lc_19 hC hX hbl hbA hW hl hin h hR hcs kk)
    · exact lv_tableIn (tgt := 798) hx hb dL_law_33 (by rw [h2]; decide) (by rw [h2]; decide) (off := 765) (by rw [h2]; rfl) (by decide) (lc_20 hC hX hbl hbA hW hl hin h hR hcs kk)
    · exact lv_tableIn (tgt := 821) hx hb dL_law_33 (by rw [h2]; decide) (by rw [h2]; decide) (off := 788) (by rw [h2]; rfl) (by decide) (lc_21 hC hX hbl hbA hW hl hin h hR hcs kk)
    · exact lv_tableIn (tgt := 854) hx hb dL_law_33 (by rw [h2]; decide) (by rw [h2]; decide) (off := 821) (by rw [h2]; rfl) (by decide) (lc_22 hC hX hbl hbA hW hl hin h hR hcs kk)
    · exact lv_tableIn (tgt := 887) hx hb dL_law_33 (by rw [h2]; decide) (by rw [h2]; decide) (off := 854) (by rw [h2]; rfl) (by decide) (lc_23 hC hX hbl hbA hW hl hin h hR hcs kk)
    · exact lv_tableIn (tgt := 930) hx hb dL_law_33 (by rw [h2]; decide) (by rw [h2]; decide) (off := 897) (by rw [h2]; rfl) (by decide) (lc_24 hC hX hbl hbA hW hl hin h hR hcs kk)
    · exact lv_tableIn (tgt := 963) hx hb dL_law_33 (by rw [h2]; decide) (by rw [h2]; decide) (off := 930) (by rw [h2]; rfl) (by decide) (lc_25 hC hX hbl hbA hW hl hin h hR hcs kk)
    · exact lv_tableIn (tgt := 996) hx hb dL_law_33 (by rw [h2]; decide) (by rw [h2]; decide) (off := 963) (by rw [h2]; rfl) (by decide) (lc_26 hC hX hbl hbA hW hl hin h hR hcs kk)
set_option maxRecDepth 100000 in
theorem law_loop (hC : Cx R_law cL_law 4 rt D cA p s m args meth c) (hX : va_X b L xs s s.heap) (hbl : b < s.heap.size) (hbA : ¬ A b) (hL : L < 1000000000) (hR : 2048 ≤ R.frames ∧ 84000 ≤ R.locals) (hcs : cells ≤ R.cells ∧ slots ≤ R.slots)
    (kk : ∀ (H : Heap) (locs : List Loc) (ls : Array Slot), va_S A s.heap H locs → W p l e R s m args below meth c H locs cells slots Q (F0 m 1035 ls [])) :
    ∀ (n i : Nat) (σ τ : St) (H : Heap) (locs : List Loc) (ls : Array Slot), L ≤ i + n → i < 2000000000 → Rel σ τ → Wi D A s (wl kdX 140 a7 cA σ ++ wl kdM 31 a8 cA τ) H locs → lv_has ls 4 [(3, .int (nI i)), (2, .ref (a8 0)), (1, .ref (a7 0)), (0, .ref b)] → W p l e R s m args below meth c H locs cells slots Q (F0 m 18 ls []) := by
  have hx := hC.1
  have hb := hC.2.1
  intro n
  induction n with
  | zero =>
    intro i σ τ H locs ls hn hi h hW hl
    refine lv_iload_n hx hb dL_law_18 rfl (lv_at hl 0 rfl) ?_
    refine lv_aload_n hx hb dL_law_19 rfl (lv_at hl 3 rfl) ?_
    refine va_slen hx hb hX hbl hbA hW.2.2 dL_law_20 ?_
    refine lv_bipush (v := 6) hx hb dL_law_21 (by decide) ?_
    refine lv_isub hx hb dL_law_23 ?_
    refine lv_icmp_gt (tgt := 1035) hx hb dL_law_24 (by decide) (fun _ => kk H locs ls hW.2.2) (fun h1 => absurd (lg_exit (by omega) hi (by omega)) h1)
  | succ n ih =>
    intro i σ τ H locs ls hn hi h hW hl
    refine lv_iload_n hx hb dL_law_18 rfl (lv_at hl 0 rfl) ?_
    refine lv_aload_n hx hb dL_law_19 rfl (lv_at hl 3 rfl) ?_
    refine va_slen hx hb hX hbl hbA hW.2.2 dL_law_20 ?_
    refine lv_bipush (v := 6) hx hb dL_law_21 (by decide) ?_
    refine lv_isub hx hb dL_law_23 ?_
    refine lv_icmp_gt (tgt := 1035) hx hb dL_law_24 (by decide) (fun _ => kk H locs ls hW.2.2) (fun h1 => ?_)
    have hiL : i + 6 ≤ L := by
      rcases Nat.lt_or_ge L (i + 6) with h9 | h9
      · exact absurd (lg_exit h9 hi (by omega)) h1
      · exact h9
    have hin : ∀ k : Int32, 0 ≤ k → k ≤ 5 → vp_in (nI i + k) L := by
      intro k h0 h5
      obtain ⟨j, hj, rfl⟩ := nI_of2 (M := 5) (n := 5) rfl (Int32.not_lt.mpr h0) h5
      rw [nI_add]
      exact vp_in_nI (by omega) (by omega)
    have hin0 : vp_in (nI i) L := vp_in_nI (by omega) (by omega)
    refine lv_aload_n hx hb dL_law_27 rfl (lv_at hl 3 rfl) ?_
    refine lv_iload_n hx hb dL_law_28 rfl (lv_at hl 0 rfl) ?_
    refine va_sld hx hb hX hbl hbA hW.2.2 hin0 dL_law_29 ?_
    refine lv_bipush (v := 31) hx hb dL_law_30 (by decide) ?_
    refine lv_iand hx hb dL_law_32 ?_
    refine law_switch hC hX hbl hbA hW hl hin h hR hcs (fun σ τ H locs h hW => ?_) _
    refine lv_iinc (v := nI (i + 6)) (lv' := [(3, .int (nI (i + 6))), (2, .ref (a8 0)), (1, .ref (a7 0)), (0, .ref b)]) hx hb dL_law_1029 hl (k := 0) rfl (nI_add i 6) (by decide) rfl (fun ls hl => ?_)
    refine lv_goto (tgt := 18) hx hb dL_law_1032 (by decide) ?_
    exact ih (i + 6) σ τ H locs ls (by omega) (by omega) h hW hl
end LAW
set_option maxHeartbeats 4000000 in
set_option maxRecDepth 100000 in
theorem whole_start {p : Program} {e : Env} {s : State} {m : MethodId} {below : List Frame} {meth : Method} {c : Code} (l : Launch) {b L : Nat} {xs : Nat → Int32} (hL : L ≤ 3072) (C0 : lw_At p s m meth c b L xs) : W p l e room_1 s m #[Value.ref b] below meth c s.heap [] 0 0 (lw_Z below #[Value.ref b] s) (entryFrame m ([Value.ref b] : List Value).toArray 4) := by
  obtain ⟨hx, hb, hret, hml, hown, hts, hX, hbl, hlk, hgv⟩ := C0
  obtain ⟨D, cA, hK, hO⟩ := tys_ok hts
  have hC : Cx R_law cL_law 4 ret D cA p s m #[Value.ref b] meth c := ⟨hx, hb, hml, hown, fun w hw => hts w (lw_gt w hw), Nws.of hts, hK, hret, hlk⟩
  have hl := lv_entry ([Value.ref b]) (n := 4) (Nat.le_of_ble_eq_true rfl)
  rw [lg_entry_eq]
  have hW : Wi D (fun q => s.heap.size ≤ q) s [] s.heap [] := ⟨fun _ _ h => (by cases h), ⟨fun _ _ _ _ h => (by cases h), fun _ _ h => (by cases h)⟩, va_S.rf⟩
  have hbA : ¬ s.heap.size ≤ b := Nat.not_le.mpr hbl
  refine Wi.new hC (fun _ h => h) (ws := []) hW inX7_g tyX7 tyX7_ok ql14 ql15 ql1 (ci := 7) rfl [.null, .null, .null, .null, .null, .null] hfX7 (Nat.le_of_ble_eq_true rfl) (Nat.le_of_ble_eq_true rfl) dL_law_0 (fun q7 H hW => ?_)
  refine lv_dup hx hb dL_law_3 rfl ?_
  refine Wi.callI hC hO (fun _ h => h) (ws := []) (q := q7) (ci := 7) (fs := [.null, .null, .null, .null, .null, .null]) hW (iX7 (cA := cA) (h0 := q7)) ql16 ql17 ql1 ql18 ⟨rfl, rfl⟩ ⟨by decide +kernel, by decide +kernel, by decide +kernel⟩ ⟨Nat.le_of_ble_eq_true rfl, Nat.le_of_ble_eq_true rfl⟩ ⟨Nat.le_of_ble_eq_true rfl, Nat.le_of_ble_eq_true rfl⟩ hl.1 (Nat.le_of_ble_eq_true rfl) dL_law_4 (fun r7 H locs hW => ?_)
  refine lv_astore_n (lv' := [(1, .ref q7), (0, .ref b)]) hx hb dL_law_7 rfl hl (by decide) rfl (fun ls hl => ?_)
  have hW : Wi D (fun q => s.heap.size ≤ q) s (po7 cA q7 r7) H locs := hW
  refine Wi.new hC (fun _ h => h) (ws := po7 cA q7 r7) hW inX8_g tyX8 tyX8_ok ql629 ql630 ql8 (ci := 8) rfl [.int 0, .null, .null, .null, .null, .null, .int 0, .int 0, .int 0, .null, .null, .int 0, .long 0, .long 0, .null, .null, .null, .null, .null, .null, .null, .null, .null, .null, .null, .null, .null, .null, .null, .null, .null, .int 0, .null, .int 0, .null, .null, .null, .null, .null] hfX8 (Nat.le_of_ble_eq_true rfl) (Nat.le_of_ble_eq_true rfl) dL_law_8 (fun q8 H hW => ?_)
  refine lv_dup hx hb dL_law_11 rfl ?_
  refine Wi.callI hC hO (fun _ h => h) (ws := po7 cA q7 r7) (q := q8) (ci := 8) (fs := [.int 0, .null, .null, .null, .null, .null, .int 0, .int 0, .int 0, .null, .null, .int 0, .long 0, .long 0, .null, .null, .null, .null, .null, .null, .null, .null, .null, .null, .null, .null, .null, .null, .null, .null, .null, .int 0, .null, .int 0, .null, .null, .null, .null, .null]) hW (iX8 (cA := cA) (h0 := q8)) ql631 ql632 ql8 ql633 ⟨rfl, rfl⟩ ⟨by decide +kernel, by decide +kernel, by decide +kernel⟩ ⟨Nat.le_of_ble_eq_true rfl, Nat.le_of_ble_eq_true rfl⟩ ⟨Nat.le_of_ble_eq_true rfl, Nat.le_of_ble_eq_true rfl⟩ hl.1 (Nat.le_of_ble_eq_true rfl) dL_law_12 (fun r8 H locs hW => ?_)
  refine lv_astore_n (lv' := [(2, .ref q8), (1, .ref q7), (0, .ref b)]) hx hb dL_law_15 rfl hl (by decide) rfl (fun ls hl => ?_)
  have hW := hW.conv
  refine lv_iconst (v := 0) hx hb dL_law_16 (by decide) ?_
  refine lv_istore_n (lv' := [(3, .int 0), (2, .ref q8), (1, .ref q7), (0, .ref b)]) hx hb dL_law_17 rfl hl (by decide) rfl (fun ls hl => ?_)
  refine law_loop (a7 := ad7 q7 r7) (a8 := ad8 q8 r8) hC hX hbl hbA (by omega) ⟨Nat.le_of_ble_eq_true rfl, Nat.le_of_ble_eq_true rfl⟩ ⟨Nat.le_of_ble_eq_true rfl, Nat.le_of_ble_eq_true rfl⟩ (fun H locs ls hS => ?_) L 0 s07 s08 H locs ls (by omega) (by decide) Rel0 hW hl
  refine va_forget hS.2.2 ?_
  refine W.widen (show _ ≤ 600000 from Nat.le_of_ble_eq_true rfl) (show _ ≤ 7302250 from Nat.le_of_ble_eq_true rfl) ?_
  refine lv_iconst (v := 1) hx hb dL_law_1035 (by decide) ?_
  exact lw_ret hx hb hret hlk dL_law_1036
