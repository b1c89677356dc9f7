section
variable {D : va_G} {cA : Nat → ClassId} {ad : Nat → Nat} {p : Program} {l : Launch} {e : Env} {s : State} {m : MethodId} {args : Array Value} {below : List Frame} {meth : Method} {c : Code}
abbrev rmX6_clusterBehind : Room := { frames := 0, cells := 0, slots := 0, locals := 0 }
def fX6_clusterBehind_54 (N : Nat) (q : Nat) (K7 : Int32 → Int32 → Int32 → Int32 → St → Option (Int32 × St)) (x1 : Int32) (x2 : Int32) (x3 : Int32) (x4 : Int32) (σ : St) : Option (Int32 × St) := nx (x4 + (1 : Int32)) (fun v1 => (K7 x1 x2 x3 v1 σ))
set_option maxHeartbeats 4000000 in
set_option maxRecDepth 100000 in
theorem wX6_clusterBehind_54 (hC : Cx RX6 cX6_clusterBehind 5 (some .int) D cA p s m args meth c) {N : Nat} {q : Nat} (hq : q < 4) {K7 : Int32 → Int32 → Int32 → Int32 → St → Option (Int32 × St)} {x1 : Int32} {x2 : Int32} {x3 : Int32} {x4 : Int32} {σ : St} {r : Int32} {σ' : St} (hK7 : ∀ (x1 : Int32) (x2 : Int32) (x3 : Int32) (x4 : Int32) (σ : St) (H : Heap) (locs : List Loc) (ls : Array Slot), K7 x1 x2 x3 x4 σ = some (r, σ') → Wd kdX 140 D cA ad s σ H locs → lv_has ls 5 [(0, .ref (ad (52 + 2 * q))), (1, .int x1), (2, .int x2), (3, .int x3), (4, .int x4)] → W p l e rmX6_clusterBehind s m args below meth c H locs 0 0 (EndW kdX 140 D cA ad below args s (some (.int r)) σ') (F0 m 7 ls [])) {H : Heap} {locs : List Loc} {ls : Array Slot} (hf : fX6_clusterBehind_54 N q K7 x1 x2 x3 x4 σ = some (r, σ')) (hW : Wd kdX 140 D cA ad s σ H locs) (hl : lv_has ls 5 [(0, .ref (ad (52 + 2 * q))), (1, .int x1), (2, .int x2), (3, .int x3), (4, .int x4)]) : W p l e rmX6_clusterBehind s m args below meth c H locs 0 0 (EndW kdX 140 D cA ad below args s (some (.int r)) σ') (F0 m 54 ls []) := by
  have hx := hC.1
  have hb := hC.2.1
  have hown := hC.2.2.2.1
  have hts := hC.2.2.2.2.1
  unfold fX6_clusterBehind_54 at hf
  obtain ⟨v1, ev1⟩ : ∃ y : Int32, y = x4 + (1 : Int32) := ⟨_, rfl⟩
  have hf := nx_at ev1 hf
  refine lv_iinc (v := v1) (lv' := [(4, .int v1), (0, .ref (ad (52 + 2 * q))), (1, .int x1), (2, .int x2), (3, .int x3)]) hx hb dX6_clusterBehind_54 hl (k := 4) rfl (by rw [ev1]; rfl) (by decide) rfl (fun ls hl => ?_)
  refine lv_goto (tgt := 7) hx hb dX6_clusterBehind_57 (by decide) ?_
  exact hK7 _ _ _ _ _ _ _ _ hf hW (lv_sub hl [1, 2, 3, 4, 0] rfl)
def fX6_clusterBehind_7 (N : Nat) (q : Nat) : Nat → Int32 → Int32 → Int32 → Int32 → St → Option (Int32 × St)
  | 0, _, _, _, _, _ => none
  | n + 1, x1, x2, x3, x4, σ => if x1 ≤ x4 then some (x3, σ) else if (σ.1 (28 + 6 * q) 0) ≤ x4 then some (x3, σ) else gd (ib x4 19) (if (((σ.1 ((28 + 6 * q) + 3) x4.toNatClampNeg) >>> (x2 &&& 31)) &&& (1 : Int32)) = (1 : Int32) then gd (ib x4 19) (nx (σ.1 ((28 + 6 * q) + 3) x4.toNatClampNeg) (fun v6 => (fX6_clusterBehind_54 N q (fX6_clusterBehind_7 N q n) x1 x2 v6 x4 σ))) else (fX6_clusterBehind_54 N q (fX6_clusterBehind_7 N q n) x1 x2 x3 x4 σ))
set_option maxHeartbeats 4000000 in
set_option maxRecDepth 100000 in
theorem wX6_clusterBehind_7 (hC : Cx RX6 cX6_clusterBehind 5 (some .int) D cA p s m args meth c) {N : Nat} {q : Nat} (hq : q < 4) {r : Int32} {σ' : St} : ∀ (n : Nat) (x1 : Int32) (x2 : Int32) (x3 : Int32) (x4 : Int32) (σ : St) (H : Heap) (locs : List Loc) (ls : Array Slot), fX6_clusterBehind_7 N q n x1 x2 x3 x4 σ = some (r, σ') → Wd kdX 140 D cA ad s σ H locs → lv_has ls 5 [(0, .ref (ad (52 + 2 * q))), (1, .int x1), (2, .int x2), (3, .int x3), (4, .int x4)] → W p l e rmX6_clusterBehind s m args below meth c H locs 0 0 (EndW kdX 140 D cA ad below args s (some (.int r)) σ') (F0 m 7 ls []) := by
  have hx := hC.1
  have hb := hC.2.1
  have hown := hC.2.2.2.1
  have hts := hC.2.2.2.2.1
  intro n
  induction n with
  | zero =>
    intro x1 x2 x3 x4 σ H locs ls hf
    rw [fX6_clusterBehind_7] at hf
    cases hf
  | succ n ih =>
    intro x1 x2 x3 x4 σ H locs ls hf hW hl
    rw [fX6_clusterBehind_7] at hf
    refine lv_iload hx hb dX6_clusterBehind_7 (lv_at hl 4 rfl) ?_
    refine lv_iload_n hx hb dX6_clusterBehind_9 rfl (lv_at hl 1 rfl) ?_
    refine lv_icmp_ge (tgt := 60) hx hb dX6_clusterBehind_10 (by decide) (fun h1 => ?_) (fun h1 => ?_)
    · have hf := it_t h1 hf
      refine lv_iload_n hx hb dX6_clusterBehind_60 rfl (lv_at hl 3 rfl) ?_
      obtain ⟨rfl, rfl⟩ := sp hf
      exact Wd.iret hC hW dX6_clusterBehind_61
    · have hf := it_f h1 hf
      refine lv_iload hx hb dX6_clusterBehind_13 (lv_at hl 4 rfl) ?_
      refine lv_aload_n hx hb dX6_clusterBehind_15 rfl (lv_at hl 0 rfl) ?_
      refine gfX6_12 hC hW (52 + 2 * q) (Tr.b hq) (Tr.o hq) (q := (28 + 6 * q)) rfl dX6_clusterBehind_16 ?_
      refine gfX6_26 hC hW (28 + 6 * q) (St.b0 (Tr.s hq)) (St.o (Tr.s hq)) rfl dX6_clusterBehind_19 ?_
      refine lv_icmp_ge (tgt := 60) hx hb dX6_clusterBehind_22 (by decide) (fun h2 => ?_) (fun h2 => ?_)
      · have hf := it_t h2 hf
        refine lv_iload_n hx hb dX6_clusterBehind_60 rfl (lv_at hl 3 rfl) ?_
        obtain ⟨rfl, rfl⟩ := sp hf
        exact Wd.iret hC hW dX6_clusterBehind_61
      · have hf := it_f h2 hf
        refine lv_aload_n hx hb dX6_clusterBehind_25 rfl (lv_at hl 0 rfl) ?_
        refine gfX6_12 hC hW (52 + 2 * q) (Tr.b hq) (Tr.o hq) (q := (28 + 6 * q)) rfl dX6_clusterBehind_26 ?_
        refine gfX6_33 hC hW (28 + 6 * q) (St.b0 (Tr.s hq)) (St.o (Tr.s hq)) (q := ((28 + 6 * q) + 3)) rfl dX6_clusterBehind_29 ?_
        refine lv_iload hx hb dX6_clusterBehind_32 (lv_at hl 4 rfl) ?_
        obtain ⟨h3, hf⟩ := gd_some hf
        refine Wd.iald hC hW ((28 + 6 * q) + 3) (St.b (Tr.s hq) 3 (by decide)) (St.a3 (Tr.s hq)) h3 dX6_clusterBehind_34 ?_
        refine lv_iload_n hx hb dX6_clusterBehind_35 rfl (lv_at hl 2 rfl) ?_
        refine lv_ishr hx hb dX6_clusterBehind_36 ?_
        refine lv_iconst (v := 1) hx hb dX6_clusterBehind_37 (by decide) ?_
        refine lv_iand hx hb dX6_clusterBehind_38 ?_
        refine lv_iconst (v := 1) hx hb dX6_clusterBehind_39 (by decide) ?_
        refine lv_icmp_ne (tgt := 54) hx hb dX6_clusterBehind_40 (by decide) (fun h4 => ?_) (fun h4 => ?_)
        · have hf := it_f h4 hf
          exact wX6_clusterBehind_54 hC hq ih hf hW (lv_sub hl [0, 1, 2, 3, 4] rfl)
        · have hf := it_t h4 hf
          refine lv_aload_n hx hb dX6_clusterBehind_43 rfl (lv_at hl 0 rfl) ?_
          refine gfX6_12 hC hW (52 + 2 * q) (Tr.b hq) (Tr.o hq) (q := (28 + 6 * q)) rfl dX6_clusterBehind_44 ?_
          refine gfX6_33 hC hW (28 + 6 * q) (St.b0 (Tr.s hq)) (St.o (Tr.s hq)) (q := ((28 + 6 * q) + 3)) rfl dX6_clusterBehind_47 ?_
          refine lv_iload hx hb dX6_clusterBehind_50 (lv_at hl 4 rfl) ?_
          obtain ⟨h5, hf⟩ := gd_some hf
          refine Wd.iald hC hW ((28 + 6 * q) + 3) (St.b (Tr.s hq) 3 (by decide)) (St.a3 (Tr.s hq)) h5 dX6_clusterBehind_52 ?_
          refine lv_topi (fun v6 ev6 => ?_)
          have hf := nx_at ev6 hf
          refine lv_istore_n (lv' := [(3, .int v6), (0, .ref (ad (52 + 2 * q))), (1, .int x1), (2, .int x2), (4, .int x4)]) hx hb dX6_clusterBehind_53 rfl hl (by decide) rfl (fun ls hl => ?_)
          exact wX6_clusterBehind_54 hC hq ih hf hW (lv_sub hl [1, 2, 3, 0, 4] rfl)
def fX6_clusterBehind (N : Nat) (q : Nat) (x1 : Int32) (x2 : Int32) (σ : St) : Option (Int32 × St) := nx ((1 : Int32) <<< (x2 &&& 31)) (fun v1 => (fX6_clusterBehind_7 N q N x1 x2 v1 (0 : Int32) σ))
set_option maxHeartbeats 4000000 in
set_option maxRecDepth 100000 in
theorem kX6_clusterBehind {l : Launch} {D : va_G} {cA : Nat → ClassId} {ad : Nat → Nat} {N : Nat} {q : Nat} (hq : q < 4) {x1 : Int32} {x2 : Int32} {σ : St} {r : Int32} {σ' : St} (hf : fX6_clusterBehind N q x1 x2 σ = some (r, σ')) : MW kdX 140 l D cA ad ⟨RX6, "clusterBehind", "(II)I"⟩ cX6_clusterBehind 5 (some .int) rmX6_clusterBehind [.ref (ad (52 + 2 * q)), .int x1, .int x2] σ (some (.int r)) σ' := by
  refine MW.of (by decide) (Nat.le_of_ble_eq_true rfl) ?_
  intro p e s m args below meth c ls hC hW hl
  have hx := hC.1
  have hb := hC.2.1
  have hown := hC.2.2.2.1
  have hts := hC.2.2.2.2.1
  have hl : lv_has ls 5 [(0, .ref (ad (52 + 2 * q))), (1, .int x1), (2, .int x2)] := hl
  unfold fX6_clusterBehind at hf
  refine lv_iconst (v := 1) hx hb dX6_clusterBehind_0 (by decide) ?_
  refine lv_iload_n hx hb dX6_clusterBehind_1 rfl (lv_at hl 2 rfl) ?_
  refine lv_ishl hx hb dX6_clusterBehind_2 ?_
  refine lv_topi (fun v1 ev1 => ?_)
  have hf := nx_at ev1 hf
  refine lv_istore_n (lv' := [(3, .int v1), (0, .ref (ad (52 + 2 * q))), (1, .int x1), (2, .int x2)]) hx hb dX6_clusterBehind_3 rfl hl (by decide) rfl (fun ls hl => ?_)
  refine lv_iconst (v := 0) hx hb dX6_clusterBehind_4 (by decide) ?_
  refine lv_istore (lv' := [(4, .int (0 : Int32)), (3, .int v1), (0, .ref (ad (52 + 2 * q))), (1, .int x1), (2, .int x2)]) hx hb dX6_clusterBehind_5 hl (by decide) rfl (fun ls hl => ?_)
  exact wX6_clusterBehind_7 hC hq N _ _ _ _ _ _ _ _ hf hW (lv_sub hl [2, 3, 4, 1, 0] rfl)
abbrev rmX6_setLabels : Room := { frames := 0, cells := 0, slots := 0, locals := 0 }
def fX6_setLabels_26 (N : Nat) (q : Nat) (K2 : Int32 → Int32 → Int32 → St → Option (Unit × St)) (x1 : Int32) (x2 : Int32) (x3 : Int32) (σ : St) : Option (Unit × St) := nx (x3 + (1 : Int32)) (fun v1 => (K2 x1 x2 v1 σ))
set_option maxHeartbeats 4000000 in
set_option maxRecDepth 100000 in
theorem wX6_setLabels_26 (hC : Cx RX6 cX6_setLabels 4 none D cA p s m args meth c) {N : Nat} {q : Nat} (hq : q < 4) {K2 : Int32 → Int32 → Int32 → St → Option (Unit × St)} {x1 : Int32} {x2 : Int32} {x3 : Int32} {σ : St} {r : Unit} {σ' : St} (hK2 : ∀ (x1 : Int32) (x2 : Int32) (x3 : Int32) (σ : St) (H : Heap) (locs : List Loc) (ls : Array Slot), K2 x1 x2 x3 σ = some (r, σ') → Wd kdX 140 D cA ad s σ H locs → lv_has ls 4 [(0, .ref (ad (52 + 2 * q))), (1, .int x1), (2, .int x2), (3, .int x3)] → W p l e rmX6_setLabels s m args below meth c H locs 0 0 (EndW kdX 140 D cA ad below args s none σ') (F0 m 2 ls [])) {H : Heap} {locs : List Loc} {ls : Array Slot} (hf : fX6_setLabels_26 N q K2 x1 x2 x3 σ = some (r, σ')) (hW : Wd kdX 140 D cA ad s σ H locs) (hl : lv_has ls 4 [(0, .ref (ad (52 + 2 * q))), (1, .int x1), (2, .int x2), (3, .int x3)]) : W p l e rmX6_setLabels s m args below meth c H locs 0 0 (EndW kdX 140 D cA ad below args s none σ') (F0 m 26 ls []) := by
  have hx := hC.1
  have hb := hC.2.1
  have hown := hC.2.2.2.1
  have hts := hC.2.2.2.2.1
  unfold fX6_setLabels_26 at hf
  obtain ⟨v1, ev1⟩ : ∃ y : Int32, y = x3 + (1 : Int32) := ⟨_, rfl⟩
  have hf := nx_at ev1 hf
  refine lv_iinc (v := v1) (lv' := [(3, .int v1), (0, .ref (ad (52 + 2 * q))), (1, .int x1), (2, .int x2)]) hx hb dX6_setLabels_26 hl (k := 3) rfl (by rw [ev1]; rfl) (by decide) rfl (fun ls hl => ?_)
  refine lv_goto (tgt := 2) hx hb dX6_setLabels_29 (by decide) ?_
  exact hK2 _ _ _ _ _ _ _ hf hW (lv_sub hl [1, 2, 3, 0] rfl)
def fX6_setLabels_2 (N : Nat) (q : Nat) : Nat → Int32 → Int32 → Int32 → St → Option (Unit × St)
  | 0, _, _, _, _ => none
  | n + 1, x1, x2, x3, σ => if (σ.1 (52 + 2 * q) 2) ≤ x3 then some ((), σ) else if ((x1 >>> (x3 &&& 31)) &&& (1 : Int32)) = (1 : Int32) then gd (ib x3 20) (nx (sI σ (52 + 2 * q + 1) x3.toNatClampNeg x2) (fun s4 => (fX6_setLabels_26 N q (fX6_setLabels_2 N q n) x1 x2 x3 s4))) else (fX6_setLabels_26 N q (fX6_setLabels_2 N q n) x1 x2 x3 σ)
set_option maxHeartbeats 4000000 in
set_option maxRecDepth 100000 in
theorem wX6_setLabels_2 (hC : Cx RX6 cX6_setLabels 4 none D cA p s m args meth c) {N : Nat} {q : Nat} (hq : q < 4) {r : Unit} {σ' : St} : ∀ (n : Nat) (x1 : Int32) (x2 : Int32) (x3 : Int32) (σ : St) (H : Heap) (locs : List Loc) (ls : Array Slot), fX6_setLabels_2 N q n x1 x2 x3 σ = some (r, σ') → Wd kdX 140 D cA ad s σ H locs → lv_has ls 4 [(0, .ref (ad (52 + 2 * q))), (1, .int x1), (2, .int x2), (3, .int x3)] → W p l e rmX6_setLabels s m args below meth c H locs 0 0 (EndW kdX 140 D cA ad below args s none σ') (F0 m 2 ls []) := by
  have hx := hC.1
  have hb := hC.2.1
  have hown := hC.2.2.2.1
  have hts := hC.2.2.2.2.1
  intro n
  induction n with
  | zero =>
    intro x1 x2 x3 σ H locs ls hf
    rw [fX6_setLabels_2] at hf
    cases hf
  | succ n ih =>
    intro x1 x2 x3 σ H locs ls hf hW hl
    rw [fX6_setLabels_2] at hf
    refine lv_iload_n hx hb dX6_setLabels_2 rfl (lv_at hl 3 rfl) ?_
    refine lv_aload_n hx hb dX6_setLabels_3 rfl (lv_at hl 0 rfl) ?_
    refine gfX6_22 hC hW (52 + 2 * q) (Tr.b hq) (Tr.o hq) rfl dX6_setLabels_4 ?_
    refine lv_icmp_ge (tgt := 32) hx hb dX6_setLabels_7 (by decide) (fun h1 => ?_) (fun h1 => ?_)
    · have hf := it_t h1 hf
      obtain ⟨-, rfl⟩ := sp hf
      exact Wd.vret hC hW dX6_setLabels_32
    · have hf := it_f h1 hf
      refine lv_iload_n hx hb dX6_setLabels_10 rfl (lv_at hl 1 rfl) ?_
      refine lv_iload_n hx hb dX6_setLabels_11 rfl (lv_at hl 3 rfl) ?_
      refine lv_ishr hx hb dX6_setLabels_12 ?_
      refine lv_iconst (v := 1) hx hb dX6_setLabels_13 (by decide) ?_
      refine lv_iand hx hb dX6_setLabels_14 ?_
      refine lv_iconst (v := 1) hx hb dX6_setLabels_15 (by decide) ?_
      refine lv_icmp_ne (tgt := 26) hx hb dX6_setLabels_16 (by decide) (fun h2 => ?_) (fun h2 => ?_)
      · have hf := it_f h2 hf
        exact wX6_setLabels_26 hC hq ih hf hW (lv_sub hl [0, 1, 2, 3] rfl)
      · have hf := it_t h2 hf
        refine lv_aload_n hx hb dX6_setLabels_19 rfl (lv_at hl 0 rfl) ?_
        refine gfX6_18 hC hW (52 + 2 * q) (Tr.b hq) (Tr.o hq) (q := (52 + 2 * q + 1)) rfl dX6_setLabels_20 ?_
        refine lv_iload_n hx hb dX6_setLabels_23 rfl (lv_at hl 3 rfl) ?_
        refine lv_iload_n hx hb dX6_setLabels_24 rfl (lv_at hl 2 rfl) ?_
        obtain ⟨h3, hf⟩ := gd_some hf
        refine Wd.iast hC hW (52 + 2 * q + 1) (Tr.bl hq) (Tr.l hq) h3 dX6_setLabels_25 (fun H locs hW => ?_)
        obtain ⟨s4, es4, hf⟩ := nx_ex hf
        rw [← es4] at hW
        exact wX6_setLabels_26 hC hq ih hf hW (lv_sub hl [0, 1, 2, 3] rfl)
def fX6_setLabels (N : Nat) (q : Nat) (x1 : Int32) (x2 : Int32) (σ : St) : Option (Unit × St) := (fX6_setLabels_2 N q N x1 x2 (0 : Int32) σ)
set_option maxHeartbeats 4000000 in
set_option maxRecDepth 100000 in
theorem kX6_setLabels {l : Launch} {D : va_G} {cA : Nat → ClassId} {ad : Nat → Nat} {N : Nat} {q : Nat} (hq : q < 4) {x1 : Int32} {x2 : Int32} {σ : St} {r : Unit} {σ' : St} (hf : fX6_setLabels N q x1 x2 σ = some (r, σ')) : MW kdX 140 l D cA ad ⟨RX6, "setLabels", "(II)V"⟩ cX6_setLabels 4 none rmX6_setLabels [.ref (ad (52 + 2 * q)), .int x1, .int x2] σ none σ' := by
  refine MW.of (by decide) (Nat.le_of_ble_eq_true rfl) ?_
  intro p e s m args below meth c ls hC hW hl
  have hx := hC.1
  have hb := hC.2.1
  have hown := hC.2.2.2.1
  have hts := hC.2.2.2.2.1
  have hl : lv_has ls 4 [(0, .ref (ad (52 + 2 * q))), (1, .int x1), (2, .int x2)] := hl
  unfold fX6_setLabels at hf
  refine lv_iconst (v := 0) hx hb dX6_setLabels_0 (by decide) ?_
  refine lv_istore_n (lv' := [(3, .int (0 : Int32)), (0, .ref (ad (52 + 2 * q))), (1, .int x1), (2, .int x2)]) hx hb dX6_setLabels_1 rfl hl (by decide) rfl (fun ls hl => ?_)
  exact wX6_setLabels_2 hC hq N _ _ _ _ _ _ _ hf hW (lv_sub hl [1, 2, 3, 0] rfl)
abbrev rmX6_cutBehind : Room := { frames := 1, cells := 0, slots := 0, locals := 24 }
def fX6_cutBehind_49 (N : Nat) (q : Nat) (K7 : Int32 → Int32 → Int32 → Int32 → St → Option (Int32 × St)) (x1 : Int32) (x2 : Int32) (x3 : Int32) (x4 : Int32) (σ : St) : Option (Int32 × St) := nx (x4 + (1 : Int32)) (fun v1 => (K7 x1 x2 x3 v1 σ))
set_option maxHeartbeats 4000000 in
set_option maxRecDepth 100000 in
theorem wX6_cutBehind_49 (hC : Cx RX6 cX6_cutBehind 6 (some .int) D cA p s m args meth c) {N : Nat} {q : Nat} (hq : q < 4) {K7 : Int32 → Int32 → Int32 → Int32 → St → Option (Int32 × St)} {x1 : Int32} {x2 : Int32} {x3 : Int32} {x4 : Int32} {σ : St} {r : Int32} {σ' : St} (hK7 : ∀ (x1 : Int32) (x2 : Int32) (x3 : Int32) (x4 : Int32) (σ : St) (H : Heap) (locs : List Loc) (ls : Array Slot), K7 x1 x2 x3 x4 σ = some (r, σ') → Wd kdX 140 D cA ad s σ H locs → lv_has ls 6 [(0, .ref (ad (52 + 2 * q))), (1, .int x1), (2, .int x2), (3, .int x3), (4, .int x4)] → W p l e rmX6_cutBehind s m args below meth c H locs 0 0 (EndW kdX 140 D cA ad below args s (some (.int r)) σ') (F0 m 7 ls [])) {H : Heap} {locs : List Loc} {ls : Array Slot} (hf : fX6_cutBehind_49 N q K7 x1 x2 x3 x4 σ = some (r, σ')) (hW : Wd kdX 140 D cA ad s σ H locs) (hl : lv_has ls 6 [(0, .ref (ad (52 + 2 * q))), (1, .int x1), (2, .int x2), (3, .int x3), (4, .int x4)]) : W p l e rmX6_cutBehind s m args below meth c H locs 0 0 (EndW kdX 140 D cA ad below args s (some (.int r)) σ') (F0 m 49 ls []) := by
  have hx := hC.1
  have hb := hC.2.1
  have hown := hC.2.2.2.1
  have hts := hC.2.2.2.2.1
  unfold fX6_cutBehind_49 at hf
  obtain ⟨v1, ev1⟩ : ∃ y : Int32, y = x4 + (1 : Int32) := ⟨_, rfl⟩
  have hf := nx_at ev1 hf
  refine lv_iinc (v := v1) (lv' := [(4, .int v1), (0, .ref (ad (52 + 2 * q))), (1, .int x1), (2, .int x2), (3, .int x3)]) hx hb dX6_cutBehind_49 hl (k := 4) rfl (by rw [ev1]; rfl) (by decide) rfl (fun ls hl => ?_)
  refine lv_goto (tgt := 7) hx hb dX6_cutBehind_52 (by decide) ?_
  exact hK7 _ _ _ _ _ _ _ _ hf hW (lv_sub hl [1, 2, 3, 4, 0] rfl)
def fX6_cutBehind_7 (N : Nat) (q : Nat) : Nat → Int32 → Int32 → Int32 → Int32 → St → Option (Int32 × St)
  | 0, _, _, _, _, _ => none
  | n + 1, x1, x2, x3, x4, σ => if (σ.1 (52 + 2 * q) 2) ≤ x4 then some (x2, σ) else if ((x3 >>> (x4 &&& 31)) &&& (1 : Int32)) = 0 then bd (fX6_clusterBehind N q x1 x4 σ) (fun r3 s4 => bd (fX6_setLabels N q r3 x2 s4) (fun r6 s7 => nx (x3 ||| r3) (fun v9 => nx (x2 + (1 : Int32)) (fun v10 => (fX6_cutBehind_49 N q (fX6_cutBehind_7 N q n) x1 v10 v9 x4 s7))))) else (fX6_cutBehind_49 N q (fX6_cutBehind_7 N q n) x1 x2 x3 x4 σ)
set_option maxHeartbeats 4000000 in
set_option maxRecDepth 100000 in
theorem wX6_cutBehind_7 (hC : Cx RX6 cX6_cutBehind 6 (some .int) D cA p s m args meth c) {N : Nat} {q : Nat} (hq : q < 4) {r : Int32} {σ' : St} : ∀ (n : Nat) (x1 : Int32) (x2 : Int32) (x3 : Int32) (x4 : Int32) (σ : St) (H : Heap) (locs : List Loc) (ls : Array Slot), fX6_cutBehind_7 N q n x1 x2 x3 x4 σ = some (r, σ') → Wd kdX 140 D cA ad s σ H locs → lv_has ls 6 [(0, .ref (ad (52 + 2 * q))), (1, .int x1), (2, .int x2), (3, .int x3), (4, .int x4)] → W p l e rmX6_cutBehind s m args below meth c H locs 0 0 (EndW kdX 140 D cA ad below args s (some (.int r)) σ') (F0 m 7 ls []) := by
  have hx := hC.1
  have hb := hC.2.1
  have hown := hC.2.2.2.1
  have hts := hC.2.2.2.2.1
  intro n
  induction n with
  | zero =>
    intro x1 x2 x3 x4 σ H locs ls hf
    rw [fX6_cutBehind_7] at hf
    cases hf
  | succ n ih =>
    intro x1 x2 x3 x4 σ H locs ls hf hW hl
    rw [fX6_cutBehind_7] at hf
    refine lv_iload hx hb dX6_cutBehind_7 (lv_at hl 4 rfl) ?_
    refine lv_aload_n hx hb dX6_cutBehind_9 rfl (lv_at hl 0 rfl) ?_
    refine gfX6_22 hC hW (52 + 2 * q) (Tr.b hq) (Tr.o hq) rfl dX6_cutBehind_10 ?_
    refine lv_icmp_ge (tgt := 55) hx hb dX6_cutBehind_13 (by decide) (fun h1 => ?_) (fun h1 => ?_)
    · have hf := it_t h1 hf
      refine lv_iload_n hx hb dX6_cutBehind_55 rfl (lv_at hl 2 rfl) ?_
      obtain ⟨rfl, rfl⟩ := sp hf
      exact Wd.iret hC hW dX6_cutBehind_56
    · have hf := it_f h1 hf
      refine lv_iload_n hx hb dX6_cutBehind_16 rfl (lv_at hl 3 rfl) ?_
      refine lv_iload hx hb dX6_cutBehind_17 (lv_at hl 4 rfl) ?_
      refine lv_ishr hx hb dX6_cutBehind_19 ?_
      refine lv_iconst (v := 1) hx hb dX6_cutBehind_20 (by decide) ?_
      refine lv_iand hx hb dX6_cutBehind_21 ?_
      refine lv_if_ne (tgt := 49) hx hb dX6_cutBehind_22 (by decide) (fun h2 => ?_) (fun h2 => ?_)
      · have hf := it_f h2 hf
        exact wX6_cutBehind_49 hC hq ih hf hW (lv_sub hl [0, 1, 2, 3, 4] rfl)
      · have hf := it_t h2 hf
        refine lv_aload_n hx hb dX6_cutBehind_25 rfl (lv_at hl 0 rfl) ?_
        refine lv_iload_n hx hb dX6_cutBehind_26 rfl (lv_at hl 1 rfl) ?_
        refine lv_iload hx hb dX6_cutBehind_27 (lv_at hl 4 rfl) ?_
        obtain ⟨r3, s4, c5, hf⟩ := bd_some hf
        refine Wd.callV (n := 2) (As := [.int x1, .int x4]) (rest := []) (rv := some (.int r3)) hC hW (52 + 2 * q) (kX6_clusterBehind hq c5) (Tr.b hq) (Tr.o hq) rfl q592 q594 qs43 q7 q595 ⟨rfl, rfl⟩ ⟨by decide +kernel, by decide +kernel, by decide +kernel⟩ ⟨Nat.le_of_ble_eq_true rfl, Nat.le_of_ble_eq_true rfl⟩ ⟨Nat.zero_le _, Nat.zero_le _⟩ rfl hl.1 rfl (st2 := [.int r3]) rfl (Nat.le_of_ble_eq_true rfl) dX6_cutBehind_29 (fun H locs hW => ?_)
        refine lv_istore (lv' := [(5, .int r3), (0, .ref (ad (52 + 2 * q))), (1, .int x1), (2, .int x2), (3, .int x3), (4, .int x4)]) hx hb dX6_cutBehind_32 hl (by decide) rfl (fun ls hl => ?_)
        refine lv_aload_n hx hb dX6_cutBehind_34 rfl (lv_at hl 1 rfl) ?_
        refine lv_iload hx hb dX6_cutBehind_35 (lv_at hl 0 rfl) ?_
        refine lv_iload_n hx hb dX6_cutBehind_37 rfl (lv_at hl 3 rfl) ?_
        obtain ⟨r6, s7, c8, hf⟩ := bd_some hf
        refine Wd.callV (n := 2) (As := [.int r3, .int x2]) (rest := []) (rv := none) hC hW (52 + 2 * q) (kX6_setLabels hq c8) (Tr.b hq) (Tr.o hq) rfl q596 q598 qs44 q7 q599 ⟨rfl, rfl⟩ ⟨by decide +kernel, by decide +kernel, by decide +kernel⟩ ⟨Nat.le_of_ble_eq_true rfl, Nat.le_of_ble_eq_true rfl⟩ ⟨Nat.zero_le _, Nat.zero_le _⟩ rfl hl.1 rfl (st2 := []) rfl (Nat.le_of_ble_eq_true rfl) dX6_cutBehind_38 (fun H locs hW => ?_)
        refine lv_iload_n hx hb dX6_cutBehind_41 rfl (lv_at hl 4 rfl) ?_
        refine lv_iload hx hb dX6_cutBehind_42 (lv_at hl 0 rfl) ?_
        refine lv_ior hx hb dX6_cutBehind_44 ?_
        refine lv_topi (fun v9 ev9 => ?_)
        have hf := nx_at ev9 hf
        refine lv_istore_n (lv' := [(3, .int v9), (5, .int r3), (0, .ref (ad (52 + 2 * q))), (1, .int x1), (2, .int x2), (4, .int x4)]) hx hb dX6_cutBehind_45 rfl hl (by decide) rfl (fun ls hl => ?_)
        obtain ⟨v10, ev10⟩ : ∃ y : Int32, y = x2 + (1 : Int32) := ⟨_, rfl⟩
        have hf := nx_at ev10 hf
        refine lv_iinc (v := v10) (lv' := [(2, .int v10), (3, .int v9), (5, .int r3), (0, .ref (ad (52 + 2 * q))), (1, .int x1), (4, .int x4)]) hx hb dX6_cutBehind_46 hl (k := 4) rfl (by rw [ev10]; rfl) (by decide) rfl (fun ls hl => ?_)
        exact wX6_cutBehind_49 hC hq ih hf hW (lv_sub hl [3, 4, 0, 1, 5] rfl)
def fX6_cutBehind (N : Nat) (q : Nat) (x1 : Int32) (σ : St) : Option (Int32 × St) := (fX6_cutBehind_7 N q N x1 (0 : Int32) (0 : Int32) (0 : Int32) σ)
set_option maxHeartbeats 4000000 in
set_option maxRecDepth 100000 in
theorem kX6_cutBehind {l : Launch} {D : va_G} {cA : Nat → ClassId} {ad : Nat → Nat} {N : Nat} {q : Nat} (hq : q < 4) {x1 : Int32} {σ : St} {r : Int32} {σ' : St} (hf : fX6_cutBehind N q x1 σ = some (r, σ')) : MW kdX 140 l D cA ad ⟨RX6, "cutBehind", "(I)I"⟩ cX6_cutBehind 6 (some .int) rmX6_cutBehind [.ref (ad (52 + 2 * q)), .int x1] σ (some (.int r)) σ' := by
  refine MW.of (by decide) (Nat.le_of_ble_eq_true rfl) ?_
  intro p e s m args below meth c ls hC hW hl
  have hx := hC.1
  have hb := hC.2.1
  have hown := hC.2.2.2.1
  have hts := hC.2.2.2.2.1
  have hl : lv_has ls 6 [(0, .ref (ad (52 + 2 * q))), (1, .int x1)] := hl
  unfold fX6_cutBehind at hf
  refine lv_iconst (v := 0) hx hb dX6_cutBehind_0 (by decide) ?_
  refine lv_istore_n (lv' := [(2, .int (0 : Int32)), (0, .ref (ad (52 + 2 * q))), (1, .int x1)]) hx hb dX6_cutBehind_1 rfl hl (by decide) rfl (fun ls hl => ?_)
  refine lv_iconst (v := 0) hx hb dX6_cutBehind_2 (by decide) ?_
  refine lv_istore_n (lv' := [(3, .int (0 : Int32)), (2, .int (0 : Int32)), (0, .ref (ad (52 + 2 * q))), (1, .int x1)]) hx hb dX6_cutBehind_3 rfl hl (by decide) rfl (fun ls hl => ?_)
  refine lv_iconst (v := 0) hx hb dX6_cutBehind_4 (by decide) ?_
  refine lv_istore (lv' := [(4, .int (0 : Int32)), (3, .int (0 : Int32)), (2, .int (0 : Int32)), (0, .ref (ad (52 + 2 * q))), (1, .int x1)]) hx hb dX6_cutBehind_5 hl (by decide) rfl (fun ls hl => ?_)
  exact wX6_cutBehind_7 hC hq N _ _ _ _ _ _ _ _ hf hW (lv_sub hl [3, 4, 2, 1, 0] rfl)
abbrev rmX7_cut : Room := { frames := 2, cells := 0, slots := 0, locals := 49 }
def fX7_cut (N : Nat) (x1 : Int32) (x2 : Int32) (σ : St) : Option (Int32 × St) := bd (fX7_treeIn N x1 σ) (fun r1 s2 => oc r1 (some ((-1 : Int32), s2)) (fun q2 => bd (fJ9_min_7cf53 N (1 : Int32) (s2.1 (52 + 2 * q2) 2) s2) (fun r4 s5 => if x2 < r4 then some ((-1 : Int32), s5) else if x2 ≤ (s5.1 (52 + 2 * q2) 2) then bd (fX6_cutBehind N q2 ((s5.1 (52 + 2 * q2) 2) - x2) s5) (fun r9 s10 => some (r9, s10)) else some ((-1 : Int32), s5))))
set_option maxHeartbeats 4000000 in
set_option maxRecDepth 100000 in
theorem kX7_cut {l : Launch} {D : va_G} {cA : Nat → ClassId} {ad : Nat → Nat} {N : Nat} {x1 : Int32} {x2 : Int32} {σ : St} {r : Int32} {σ' : St} (hf : fX7_cut N x1 x2 σ = some (r, σ')) : MW kdX 140 l D cA ad ⟨RX7, "cut", "(II)I"⟩ cX7_cut 4 (some .int) rmX7_cut [.ref (ad 0), .int x1, .int x2] σ (some (.int r)) σ' := by
  refine MW.of (by decide) (Nat.le_of_ble_eq_true rfl) ?_
  intro p e s m args below meth c ls hC hW hl
  have hx := hC.1
  have hb := hC.2.1
  have hown := hC.2.2.2.1
  have hts := hC.2.2.2.2.1
  have hl : lv_has ls 4 [(0, .ref (ad 0)), (1, .int x1), (2, .int x2)] := hl
  unfold fX7_cut at hf
  refine lv_aload_n hx hb dX7_cut_0 rfl (lv_at hl 0 rfl) ?_
  refine lv_iload_n hx hb dX7_cut_1 rfl (lv_at hl 1 rfl) ?_
  obtain ⟨r1, s2, c3, hf⟩ := bd_some hf
  cases r1 with
  | none =>
    have hf := oc_n hf
    refine Wd.callV (n := 1) (As := [.int x1]) (rest := []) (rv := some .null) hC hW 0 (kX7_treeIn c3) (by decide) rfl rfl q510 q512 qs32 q1 q513 ⟨rfl, rfl⟩ ⟨by decide +kernel, by decide +kernel, by decide +kernel⟩ ⟨Nat.le_of_ble_eq_true rfl, Nat.le_of_ble_eq_true rfl⟩ ⟨Nat.zero_le _, Nat.zero_le _⟩ rfl hl.1 rfl (st2 := [.null]) rfl (Nat.le_of_ble_eq_true rfl) dX7_cut_2 (fun H locs hW => ?_)
    refine lv_astore_nN (lv' := [(3, .null), (0, .ref (ad 0)), (1, .int x1), (2, .int x2)]) hx hb dX7_cut_5 rfl hl (by decide) rfl (fun ls hl => ?_)
    refine lv_aload_nN hx hb dX7_cut_6 rfl (lv_at hl 0 rfl) ?_
    refine lv_ifnullN (tgt := 30) hx hb dX7_cut_7 (by decide) ?_
    refine lv_iconst (v := (-1)) hx hb dX7_cut_30 (by decide) ?_
    obtain ⟨rfl, rfl⟩ := sp hf
    exact Wd.iret hC hW dX7_cut_31
  | some q2 =>
    have hf := oc_s hf
    have hq2 := treeIn_lt c3
    refine Wd.callV (n := 1) (As := [.int x1]) (rest := []) (rv := some (.ref (ad (52 + 2 * q2)))) hC hW 0 (kX7_treeIn c3) (by decide) rfl rfl q510 q512 qs32 q1 q513 ⟨rfl, rfl⟩ ⟨by decide +kernel, by decide +kernel, by decide +kernel⟩ ⟨Nat.le_of_ble_eq_true rfl, Nat.le_of_ble_eq_true rfl⟩ ⟨Nat.zero_le _, Nat.zero_le _⟩ rfl hl.1 rfl (st2 := [.ref (ad (52 + 2 * q2))]) rfl (Nat.le_of_ble_eq_true rfl) dX7_cut_2 (fun H locs hW => ?_)
    refine lv_astore_n (lv' := [(3, .ref (ad (52 + 2 * q2))), (0, .ref (ad 0)), (1, .int x1), (2, .int x2)]) hx hb dX7_cut_5 rfl hl (by decide) rfl (fun ls hl => ?_)
    refine lv_aload_n hx hb dX7_cut_6 rfl (lv_at hl 0 rfl) ?_
    refine lv_ifnull hx hb dX7_cut_7 ?_
    refine lv_iload_n hx hb dX7_cut_10 rfl (lv_at hl 3 rfl) ?_
    refine lv_iconst (v := 1) hx hb dX7_cut_11 (by decide) ?_
    refine lv_aload_n hx hb dX7_cut_12 rfl (lv_at hl 0 rfl) ?_
    refine gfX7_165 hC hW (52 + 2 * q2) (Tr.b hq2) (Tr.o hq2) rfl dX7_cut_13 ?_
    obtain ⟨r4, s5, c6, hf⟩ := bd_some hf
    refine Wd.callS (n := 2) (As := [.int (1 : Int32), .int (s2.1 (52 + 2 * q2) 2)]) (rest := [.int x2]) (rv := some (.int r4)) hC hW (kJ9_min_7cf53 c6) q587 q463 q9 q464 ⟨rfl, rfl⟩ ⟨by decide +kernel, by decide +kernel, by decide +kernel⟩ ⟨Nat.le_of_ble_eq_true rfl, Nat.le_of_ble_eq_true rfl⟩ ⟨Nat.zero_le _, Nat.zero_le _⟩ rfl hl.1 rfl (st2 := [.int r4, .int x2]) rfl (Nat.le_of_ble_eq_true rfl) dX7_cut_16 (fun H locs hW => ?_)
    refine lv_icmp_lt (tgt := 30) hx hb dX7_cut_19 (by decide) (fun h7 => ?_) (fun h7 => ?_)
    · have hf := it_t h7 hf
      refine lv_iconst (v := (-1)) hx hb dX7_cut_30 (by decide) ?_
      obtain ⟨rfl, rfl⟩ := sp hf
      exact Wd.iret hC hW dX7_cut_31
    · have hf := it_f h7 hf
      refine lv_iload_n hx hb dX7_cut_22 rfl (lv_at hl 3 rfl) ?_
      refine lv_aload_n hx hb dX7_cut_23 rfl (lv_at hl 0 rfl) ?_
      refine gfX7_165 hC hW (52 + 2 * q2) (Tr.b hq2) (Tr.o hq2) rfl dX7_cut_24 ?_
      refine lv_icmp_le (tgt := 32) hx hb dX7_cut_27 (by decide) (fun h8 => ?_) (fun h8 => ?_)
      · have hf := it_t h8 hf
        refine lv_aload_n hx hb dX7_cut_32 rfl (lv_at hl 0 rfl) ?_
        refine lv_aload_n hx hb dX7_cut_33 rfl (lv_at hl 0 rfl) ?_
        refine gfX7_165 hC hW (52 + 2 * q2) (Tr.b hq2) (Tr.o hq2) rfl dX7_cut_34 ?_
        refine lv_iload_n hx hb dX7_cut_37 rfl (lv_at hl 3 rfl) ?_
        refine lv_isub hx hb dX7_cut_38 ?_
        obtain ⟨r9, s10, c11, hf⟩ := bd_some hf
        refine Wd.callVN (n := 1) (As := [.int ((s5.1 (52 + 2 * q2) 2) - x2)]) (rest := []) (rv := some (.int r9)) hC hW (52 + 2 * q2) (kX6_cutBehind hq2 c11) (Tr.b hq2) (Tr.o hq2) rfl q588 q590 qs42 q7 q591 ⟨rfl, rfl⟩ ⟨by decide +kernel, by decide +kernel, by decide +kernel⟩ ⟨Nat.le_of_ble_eq_true rfl, Nat.le_of_ble_eq_true rfl⟩ ⟨Nat.zero_le _, Nat.zero_le _⟩ rfl hl.1 rfl (st2 := [.int r9]) rfl (Nat.le_of_ble_eq_true rfl) dX7_cut_39 (fun H locs hW => ?_)
        obtain ⟨rfl, rfl⟩ := sp hf
        exact Wd.iret hC hW dX7_cut_42
      · have hf := it_f h8 hf
        refine lv_iconst (v := (-1)) hx hb dX7_cut_30 (by decide) ?_
        obtain ⟨rfl, rfl⟩ := sp hf
        exact Wd.iret hC hW dX7_cut_31
abbrev rmX4_countUpTo : Room := { frames := 0, cells := 0, slots := 0, locals := 0 }
def fX4_countUpTo_40 (N : Nat) (a : Nat) (K6 : Int64 → Int64 → Int32 → Int32 → St → Option (Int32 × St)) (x1 : Int64) (x3 : Int64) (x5 : Int32) (x6 : Int32) (σ : St) : Option (Int32 × St) := nx (x6 + (1 : Int32)) (fun v1 => (K6 x1 x3 x5 v1 σ))
set_option maxHeartbeats 4000000 in
set_option maxRecDepth 100000 in
theorem wX4_countUpTo_40 (hC : Cx RX4 cX4_countUpTo 7 (some .int) D cA p s m args meth c) {N : Nat} {a : Nat} (ha : isSt a) {K6 : Int64 → Int64 → Int32 → Int32 → St → Option (Int32 × St)} {x1 : Int64} {x3 : Int64} {x5 : Int32} {x6 : Int32} {σ : St} {r : Int32} {σ' : St} (hK6 : ∀ (x1 : Int64) (x3 : Int64) (x5 : Int32) (x6 : Int32) (σ : St) (H : Heap) (locs : List Loc) (ls : Array Slot), K6 x1 x3 x5 x6 σ = some (r, σ') → Wd kdX 140 D cA ad s σ H locs → lv_has ls 7 [(0, .ref (ad a)), (1, .long x1), (3, .long x3), (5, .int x5), (6, .int x6)] → W p l e rmX4_countUpTo s m args below meth c H locs 0 0 (EndW kdX 140 D cA ad below args s (some (.int r)) σ') (F0 m 6 ls [])) {H : Heap} {locs : List Loc} {ls : Array Slot} (hf : fX4_countUpTo_40 N a K6 x1 x3 x5 x6 σ = some (r, σ')) (hW : Wd kdX 140 D cA ad s σ H locs) (hl : lv_has ls 7 [(0, .ref (ad a)), (1, .long x1), (3, .long x3), (5, .int x5), (6, .int x6)]) : W p l e rmX4_countUpTo s m args below meth c H locs 0 0 (EndW kdX 140 D cA ad below args s (some (.int r)) σ') (F0 m 40 ls []) := by
  have hx := hC.1
  have hb := hC.2.1
  have hown := hC.2.2.2.1
  have hts := hC.2.2.2.2.1
  unfold fX4_countUpTo_40 at hf
  obtain ⟨v1, ev1⟩ : ∃ y : Int32, y = x6 + (1 : Int32) := ⟨_, rfl⟩
  have hf := nx_at ev1 hf
  refine lv_iinc (v := v1) (lv' := [(6, .int v1), (0, .ref (ad a)), (1, .long x1), (3, .long x3), (5, .int x5)]) hx hb dX4_countUpTo_40 hl (k := 4) rfl (by rw [ev1]; rfl) (by decide) rfl (fun ls hl => ?_)
  refine lv_goto (tgt := 6) hx hb dX4_countUpTo_43 (by decide) ?_
  exact hK6 _ _ _ _ _ _ _ _ hf hW (lv_sub hl [1, 2, 3, 4, 0] rfl)
def fX4_countUpTo_6 (N : Nat) (a : Nat) : Nat → Int64 → Int64 → Int32 → Int32 → St → Option (Int32 × St)
  | 0, _, _, _, _, _ => none
  | n + 1, x1, x3, x5, x6, σ => if (σ.1 a 0) ≤ x6 then some (x5, σ) else gd (ib x6 19) (gd (ib x6 19) (if 0 < (lg_cmp ((σ.2 (a + 4) x6.toNatClampNeg) * x3) (x1 * (σ.2 (a + 5) x6.toNatClampNeg))) then (fX4_countUpTo_40 N a (fX4_countUpTo_6 N a n) x1 x3 x5 x6 σ) else nx (x5 + (1 : Int32)) (fun v5 => (fX4_countUpTo_40 N a (fX4_countUpTo_6 N a n) x1 x3 v5 x6 σ))))
set_option maxHeartbeats 4000000 in
set_option maxRecDepth 100000 in
theorem wX4_countUpTo_6 (hC : Cx RX4 cX4_countUpTo 7 (some .int) D cA p s m args meth c) {N : Nat} {a : Nat} (ha : isSt a) {r : Int32} {σ' : St} : ∀ (n : Nat) (x1 : Int64) (x3 : Int64) (x5 : Int32) (x6 : Int32) (σ : St) (H : Heap) (locs : List Loc) (ls : Array Slot), fX4_countUpTo_6 N a n x1 x3 x5 x6 σ = some (r, σ') → Wd kdX 140 D cA ad s σ H locs → lv_has ls 7 [(0, .ref (ad a)), (1, .long x1), (3, .long x3), (5, .int x5), (6, .int x6)] → W p l e rmX4_countUpTo s m args below meth c H locs 0 0 (EndW kdX 140 D cA ad below args s (some (.int r)) σ') (F0 m 6 ls []) := by
  have hx := hC.1
  have hb := hC.2.1
  have hown := hC.2.2.2.1
  have hts := hC.2.2.2.2.1
  intro n
  induction n with
  | zero =>
    intro x1 x3 x5 x6 σ H locs ls hf
    rw [fX4_countUpTo_6] at hf
    cases hf
  | succ n ih =>
    intro x1 x3 x5 x6 σ H locs ls hf hW hl
    rw [fX4_countUpTo_6] at hf
    refine lv_iload hx hb dX4_countUpTo_6 (lv_at hl 4 rfl) ?_
    refine lv_aload_n hx hb dX4_countUpTo_8 rfl (lv_at hl 0 rfl) ?_
    refine gfX4_28 hC hW a (St.b0 ha) (St.o ha) rfl dX4_countUpTo_9 ?_
    refine lv_icmp_ge (tgt := 46) hx hb dX4_countUpTo_12 (by decide) (fun h1 => ?_) (fun h1 => ?_)
    · have hf := it_t h1 hf
      refine lv_iload hx hb dX4_countUpTo_46 (lv_at hl 3 rfl) ?_
      obtain ⟨rfl, rfl⟩ := sp hf
      exact Wd.iret hC hW dX4_countUpTo_48
    · have hf := it_f h1 hf
      refine lv_aload_n hx hb dX4_countUpTo_15 rfl (lv_at hl 0 rfl) ?_
      refine gfX4_21 hC hW a (St.b0 ha) (St.o ha) (q := (a + 4)) rfl dX4_countUpTo_16 ?_
      refine lv_iload hx hb dX4_countUpTo_19 (lv_at hl 4 rfl) ?_
      obtain ⟨h2, hf⟩ := gd_some hf
      refine Wd.lald hC hW (a + 4) (St.b ha 4 (by decide)) (St.a4 ha) h2 dX4_countUpTo_21 ?_
      refine lv_lload_n hx hb dX4_countUpTo_22 rfl (lv_at hl 2 rfl) ?_
      refine lv_lmul hx hb dX4_countUpTo_23 ?_
      refine lv_lload_n hx hb dX4_countUpTo_24 rfl (lv_at hl 1 rfl) ?_
      refine lv_aload_n hx hb dX4_countUpTo_25 rfl (lv_at hl 0 rfl) ?_
      refine gfX4_25 hC hW a (St.b0 ha) (St.o ha) (q := (a + 5)) rfl dX4_countUpTo_26 ?_
      refine lv_iload hx hb dX4_countUpTo_29 (lv_at hl 4 rfl) ?_
      obtain ⟨h3, hf⟩ := gd_some hf
      refine Wd.lald hC hW (a + 5) (St.b ha 5 (by decide)) (St.a5 ha) h3 dX4_countUpTo_31 ?_
      refine lv_lmul hx hb dX4_countUpTo_32 ?_
      refine W.lcmp hx hb dX4_countUpTo_33 ?_
      refine lv_if_gt (tgt := 40) hx hb dX4_countUpTo_34 (by decide) (fun h4 => ?_) (fun h4 => ?_)
      · have hf := it_t h4 hf
        exact wX4_countUpTo_40 hC ha ih hf hW (lv_sub hl [0, 1, 2, 3, 4] rfl)
      · have hf := it_f h4 hf
        obtain ⟨v5, ev5⟩ : ∃ y : Int32, y = x5 + (1 : Int32) := ⟨_, rfl⟩
        have hf := nx_at ev5 hf
        refine lv_iinc (v := v5) (lv' := [(5, .int v5), (0, .ref (ad a)), (1, .long x1), (3, .long x3), (6, .int x6)]) hx hb dX4_countUpTo_37 hl (k := 3) rfl (by rw [ev5]; rfl) (by decide) rfl (fun ls hl => ?_)
        exact wX4_countUpTo_40 hC ha ih hf hW (lv_sub hl [1, 2, 3, 0, 4] rfl)
def fX4_countUpTo (N : Nat) (a : Nat) (x1 : Int64) (x3 : Int64) (σ : St) : Option (Int32 × St) := (fX4_countUpTo_6 N a N x1 x3 (0 : Int32) (0 : Int32) σ)
set_option maxHeartbeats 4000000 in
set_option maxRecDepth 100000 in
theorem kX4_countUpTo {l : Launch} {D : va_G} {cA : Nat → ClassId} {ad : Nat → Nat} {N : Nat} {a : Nat} (ha : isSt a) {x1 : Int64} {x3 : Int64} {σ : St} {r : Int32} {σ' : St} (hf : fX4_countUpTo N a x1 x3 σ = some (r, σ')) : MW kdX 140 l D cA ad ⟨RX4, "countUpTo", "(JJ)I"⟩ cX4_countUpTo 7 (some .int) rmX4_countUpTo [.ref (ad a), .long x1, .long x3] σ (some (.int r)) σ' := by
  refine MW.of (by decide) (Nat.le_of_ble_eq_true rfl) ?_
  intro p e s m args below meth c ls hC hW hl
  have hx := hC.1
  have hb := hC.2.1
  have hown := hC.2.2.2.1
  have hts := hC.2.2.2.2.1
  have hl : lv_has ls 7 [(0, .ref (ad a)), (1, .long x1), (3, .long x3)] := hl
  unfold fX4_countUpTo at hf
  refine lv_iconst (v := 0) hx hb dX4_countUpTo_0 (by decide) ?_
  refine lv_istore (lv' := [(5, .int (0 : Int32)), (0, .ref (ad a)), (1, .long x1), (3, .long x3)]) hx hb dX4_countUpTo_1 hl (by decide) rfl (fun ls hl => ?_)
  refine lv_iconst (v := 0) hx hb dX4_countUpTo_3 (by decide) ?_
  refine lv_istore (lv' := [(6, .int (0 : Int32)), (5, .int (0 : Int32)), (0, .ref (ad a)), (1, .long x1), (3, .long x3)]) hx hb dX4_countUpTo_4 hl (by decide) rfl (fun ls hl => ?_)
  exact wX4_countUpTo_6 hC ha N _ _ _ _ _ _ _ _ hf hW (lv_sub hl [2, 3, 4, 1, 0] rfl)
abbrev rmX7_cutAt : Room := { frames := 2, cells := 0, slots := 0, locals := 49 }
def fX7_cutAt (N : Nat) (x1 : Int32) (x2 : Int32) (x3 : Int32) (σ : St) : Option (Int32 × St) := bd (fX7_treeIn N x1 σ) (fun r1 s2 => oc r1 (some ((-1 : Int32), s2)) (fun q2 => if x2 < 0 then some ((-1 : Int32), s2) else if (1000000000 : Int32) < x2 then some ((-1 : Int32), s2) else if x3 < (1 : Int32) then some ((-1 : Int32), s2) else if x3 ≤ (1000 : Int32) then bd (fX4_countUpTo N (28 + 6 * q2) x2.toInt64 x3.toInt64 s2) (fun r8 s9 => bd (fX6_cutBehind N q2 r8 s9) (fun r11 s12 => some (r11, s12))) else some ((-1 : Int32), s2)))
set_option maxHeartbeats 4000000 in
set_option maxRecDepth 100000 in
theorem kX7_cutAt {l : Launch} {D : va_G} {cA : Nat → ClassId} {ad : Nat → Nat} {N : Nat} {x1 : Int32} {x2 : Int32} {x3 : Int32} {σ : St} {r : Int32} {σ' : St} (hf : fX7_cutAt N x1 x2 x3 σ = some (r, σ')) : MW kdX 140 l D cA ad ⟨RX7, "cutAt", "(III)I"⟩ cX7_cutAt 5 (some .int) rmX7_cutAt [.ref (ad 0), .int x1, .int x2, .int x3] σ (some (.int r)) σ' := by
  refine MW.of (by decide) (Nat.le_of_ble_eq_true rfl) ?_
  intro p e s m args below meth c ls hC hW hl
  have hx := hC.1
  have hb := hC.2.1
  have hown := hC.2.2.2.1
  have hts := hC.2.2.2.2.1
  have hl : lv_has ls 5 [(0, .ref (ad 0)), (1, .int x1), (2, .int x2), (3, .int x3)] := hl
  unfold fX7_cutAt at hf
  refine lv_aload_n hx hb dX7_cutAt_0 rfl (lv_at hl 0 rfl) ?_
  refine lv_iload_n hx hb dX7_cutAt_1 rfl (lv_at hl 1 rfl) ?_
  obtain ⟨r1, s2, c3, hf⟩ := bd_some hf
  cases r1 with
  | none =>
    have hf := oc_n hf
    refine Wd.callV (n := 1) (As := [.int x1]) (rest := []) (rv := some .null) hC hW 0 (kX7_treeIn c3) (by decide) rfl rfl q510 q512 qs32 q1 q513 ⟨rfl, rfl⟩ ⟨by decide +kernel, by decide +kernel, by decide +kernel⟩ ⟨Nat.le_of_ble_eq_true rfl, Nat.le_of_ble_eq_true rfl⟩ ⟨Nat.zero_le _, Nat.zero_le _⟩ rfl hl.1 rfl (st2 := [.null]) rfl (Nat.le_of_ble_eq_true rfl) dX7_cutAt_2 (fun H locs hW => ?_)
    refine lv_astoreN (lv' := [(4, .null), (0, .ref (ad 0)), (1, .int x1), (2, .int x2), (3, .int x3)]) hx hb dX7_cutAt_5 hl (by decide) rfl (fun ls hl => ?_)
    refine lv_aloadN hx hb dX7_cutAt_7 (lv_at hl 0 rfl) ?_
    refine lv_ifnullN (tgt := 34) hx hb dX7_cutAt_9 (by decide) ?_
    refine lv_iconst (v := (-1)) hx hb dX7_cutAt_34 (by decide) ?_
    obtain ⟨rfl, rfl⟩ := sp hf
    exact Wd.iret hC hW dX7_cutAt_35
  | some q2 =>
    have hf := oc_s hf
    have hq2 := treeIn_lt c3
    refine Wd.callV (n := 1) (As := [.int x1]) (rest := []) (rv := some (.ref (ad (52 + 2 * q2)))) hC hW 0 (kX7_treeIn c3) (by decide) rfl rfl q510 q512 qs32 q1 q513 ⟨rfl, rfl⟩ ⟨by decide +kernel, by decide +kernel, by decide +kernel⟩ ⟨Nat.le_of_ble_eq_true rfl, Nat.le_of_ble_eq_true rfl⟩ ⟨Nat.zero_le _, Nat.zero_le _⟩ rfl hl.1 rfl (st2 := [.ref (ad (52 + 2 * q2))]) rfl (Nat.le_of_ble_eq_true rfl) dX7_cutAt_2 (fun H locs hW => ?_)
    refine lv_astore (lv' := [(4, .ref (ad (52 + 2 * q2))), (0, .ref (ad 0)), (1, .int x1), (2, .int x2), (3, .int x3)]) hx hb dX7_cutAt_5 hl (by decide) rfl (fun ls hl => ?_)
    refine lv_aload hx hb dX7_cutAt_7 (lv_at hl 0 rfl) ?_
    refine lv_ifnull hx hb dX7_cutAt_9 ?_
    refine lv_iload_n hx hb dX7_cutAt_12 rfl (lv_at hl 3 rfl) ?_
    refine lv_if_lt (tgt := 34) hx hb dX7_cutAt_13 (by decide) (fun h4 => ?_) (fun h4 => ?_)
    · have hf := it_t h4 hf
      refine lv_iconst (v := (-1)) hx hb dX7_cutAt_34 (by decide) ?_
      obtain ⟨rfl, rfl⟩ := sp hf
      exact Wd.iret hC hW dX7_cutAt_35
    · have hf := it_f h4 hf
      refine lv_iload_n hx hb dX7_cutAt_16 rfl (lv_at hl 3 rfl) ?_
      refine lv_ldc hx hb hown (hts _ q604) dX7_cutAt_17 ?_
      refine lv_icmp_gt (tgt := 34) hx hb dX7_cutAt_19 (by decide) (fun h5 => ?_) (fun h5 => ?_)
      · have hf := it_t h5 hf
        refine lv_iconst (v := (-1)) hx hb dX7_cutAt_34 (by decide) ?_
        obtain ⟨rfl, rfl⟩ := sp hf
        exact Wd.iret hC hW dX7_cutAt_35
      · have hf := it_f h5 hf
        refine lv_iload_n hx hb dX7_cutAt_22 rfl (lv_at hl 4 rfl) ?_
        refine lv_iconst (v := 1) hx hb dX7_cutAt_23 (by decide) ?_
        refine lv_icmp_lt (tgt := 34) hx hb dX7_cutAt_24 (by decide) (fun h6 => ?_) (fun h6 => ?_)
        · have hf := it_t h6 hf
          refine lv_iconst (v := (-1)) hx hb dX7_cutAt_34 (by decide) ?_
          obtain ⟨rfl, rfl⟩ := sp hf
          exact Wd.iret hC hW dX7_cutAt_35
        · have hf := it_f h6 hf
          refine lv_iload_n hx hb dX7_cutAt_27 rfl (lv_at hl 4 rfl) ?_
          refine lv_sipush (v := 1000) hx hb dX7_cutAt_28 (by decide) ?_
          refine lv_icmp_le (tgt := 36) hx hb dX7_cutAt_31 (by decide) (fun h7 => ?_) (fun h7 => ?_)
          · have hf := it_t h7 hf
            refine lv_aload hx hb dX7_cutAt_36 (lv_at hl 0 rfl) ?_
            refine lv_aload hx hb dX7_cutAt_38 (lv_at hl 0 rfl) ?_
            refine gfX7_155 hC hW (52 + 2 * q2) (Tr.b hq2) (Tr.o hq2) (q := (28 + 6 * q2)) rfl dX7_cutAt_40 ?_
            refine lv_iload_n hx hb dX7_cutAt_43 rfl (lv_at hl 3 rfl) ?_
            refine lv_i2l (v := x2.toInt64) hx hb dX7_cutAt_44 rfl ?_
            refine lv_iload_n hx hb dX7_cutAt_45 rfl (lv_at hl 4 rfl) ?_
            refine lv_i2l (v := x3.toInt64) hx hb dX7_cutAt_46 rfl ?_
            obtain ⟨r8, s9, c10, hf⟩ := bd_some hf
            refine Wd.callVN (n := 2) (As := [.long x2.toInt64, .long x3.toInt64]) (rest := [.ref (ad (52 + 2 * q2))]) (rv := some (.int r8)) hC hW (28 + 6 * q2) (kX4_countUpTo (Tr.s hq2) c10) (St.b0 (Tr.s hq2)) (St.o (Tr.s hq2)) rfl q605 q607 qs45 q6 q608 ⟨rfl, rfl⟩ ⟨by decide +kernel, by decide +kernel, by decide +kernel⟩ ⟨Nat.le_of_ble_eq_true rfl, Nat.le_of_ble_eq_true rfl⟩ ⟨Nat.zero_le _, Nat.zero_le _⟩ rfl hl.1 rfl (st2 := [.int r8, .ref (ad (52 + 2 * q2))]) rfl (Nat.le_of_ble_eq_true rfl) dX7_cutAt_47 (fun H locs hW => ?_)
            obtain ⟨r11, s12, c13, hf⟩ := bd_some hf
            refine Wd.callVN (n := 1) (As := [.int r8]) (rest := []) (rv := some (.int r11)) hC hW (52 + 2 * q2) (kX6_cutBehind hq2 c13) (Tr.b hq2) (Tr.o hq2) rfl q588 q590 qs42 q7 q591 ⟨rfl, rfl⟩ ⟨by decide +kernel, by decide +kernel, by decide +kernel⟩ ⟨Nat.le_of_ble_eq_true rfl, Nat.le_of_ble_eq_true rfl⟩ ⟨Nat.zero_le _, Nat.zero_le _⟩ rfl hl.1 rfl (st2 := [.int r11]) rfl (Nat.le_of_ble_eq_true rfl) dX7_cutAt_50 (fun H locs hW => ?_)
            obtain ⟨rfl, rfl⟩ := sp hf
            exact Wd.iret hC hW dX7_cutAt_53
          · have hf := it_f h7 hf
            refine lv_iconst (v := (-1)) hx hb dX7_cutAt_34 (by decide) ?_
            obtain ⟨rfl, rfl⟩ := sp hf
            exact Wd.iret hC hW dX7_cutAt_35
abbrev rmX7_label : Room := { frames := 1, cells := 0, slots := 0, locals := 21 }
def fX7_label (N : Nat) (x1 : Int32) (x2 : Int32) (σ : St) : Option (Int32 × St) := bd (fX7_treeIn N x1 σ) (fun r1 s2 => oc r1 (some ((-1 : Int32), s2)) (fun q2 => bd (fX6_has N q2 x2 s2) (fun r4 s5 => if r4 = 0 then some ((-1 : Int32), s5) else gd (ib x2 20) (some ((s5.1 (52 + 2 * q2 + 1) x2.toNatClampNeg), s5)))))
set_option maxHeartbeats 4000000 in
set_option maxRecDepth 100000 in
theorem kX7_label {l : Launch} {D : va_G} {cA : Nat → ClassId} {ad : Nat → Nat} {N : Nat} {x1 : Int32} {x2 : Int32} {σ : St} {r : Int32} {σ' : St} (hf : fX7_label N x1 x2 σ = some (r, σ')) : MW kdX 140 l D cA ad ⟨RX7, "label", "(II)I"⟩ cX7_label 4 (some .int) rmX7_label [.ref (ad 0), .int x1, .int x2] σ (some (.int r)) σ' := by
  refine MW.of (by decide) (Nat.le_of_ble_eq_true rfl) ?_
  intro p e s m args below meth c ls hC hW hl
  have hx := hC.1
  have hb := hC.2.1
  have hown := hC.2.2.2.1
  have hts := hC.2.2.2.2.1
  have hl : lv_has ls 4 [(0, .ref (ad 0)), (1, .int x1), (2, .int x2)] := hl
  unfold fX7_label at hf
  refine lv_aload_n hx hb dX7_label_0 rfl (lv_at hl 0 rfl) ?_
  refine lv_iload_n hx hb dX7_label_1 rfl (lv_at hl 1 rfl) ?_
  obtain ⟨r1, s2, c3, hf⟩ := bd_some hf
  cases r1 with
  | none =>
    have hf := oc_n hf
    refine Wd.callV (n := 1) (As := [.int x1]) (rest := []) (rv := some .null) hC hW 0 (kX7_treeIn c3) (by decide) rfl rfl q510 q512 qs32 q1 q513 ⟨rfl, rfl⟩ ⟨by decide +kernel, by decide +kernel, by decide +kernel⟩ ⟨Nat.le_of_ble_eq_true rfl, Nat.le_of_ble_eq_true rfl⟩ ⟨Nat.zero_le _, Nat.zero_le _⟩ rfl hl.1 rfl (st2 := [.null]) rfl (Nat.le_of_ble_eq_true rfl) dX7_label_2 (fun H locs hW => ?_)
    refine lv_astore_nN (lv' := [(3, .null), (0, .ref (ad 0)), (1, .int x1), (2, .int x2)]) hx hb dX7_label_5 rfl hl (by decide) rfl (fun ls hl => ?_)
    refine lv_aload_nN hx hb dX7_label_6 rfl (lv_at hl 0 rfl) ?_
    refine lv_ifnullN (tgt := 18) hx hb dX7_label_7 (by decide) ?_
    refine lv_iconst (v := (-1)) hx hb dX7_label_18 (by decide) ?_
    obtain ⟨rfl, rfl⟩ := sp hf
    exact Wd.iret hC hW dX7_label_19
  | some q2 =>
    have hf := oc_s hf
    have hq2 := treeIn_lt c3
    refine Wd.callV (n := 1) (As := [.int x1]) (rest := []) (rv := some (.ref (ad (52 + 2 * q2)))) hC hW 0 (kX7_treeIn c3) (by decide) rfl rfl q510 q512 qs32 q1 q513 ⟨rfl, rfl⟩ ⟨by decide +kernel, by decide +kernel, by decide +kernel⟩ ⟨Nat.le_of_ble_eq_true rfl, Nat.le_of_ble_eq_true rfl⟩ ⟨Nat.zero_le _, Nat.zero_le _⟩ rfl hl.1 rfl (st2 := [.ref (ad (52 + 2 * q2))]) rfl (Nat.le_of_ble_eq_true rfl) dX7_label_2 (fun H locs hW => ?_)
    refine lv_astore_n (lv' := [(3, .ref (ad (52 + 2 * q2))), (0, .ref (ad 0)), (1, .int x1), (2, .int x2)]) hx hb dX7_label_5 rfl hl (by decide) rfl (fun ls hl => ?_)
    refine lv_aload_n hx hb dX7_label_6 rfl (lv_at hl 0 rfl) ?_
    refine lv_ifnull hx hb dX7_label_7 ?_
    refine lv_aload_n hx hb dX7_label_10 rfl (lv_at hl 0 rfl) ?_
    refine lv_iload_n hx hb dX7_label_11 rfl (lv_at hl 3 rfl) ?_
    obtain ⟨r4, s5, c6, hf⟩ := bd_some hf
    refine Wd.callVN (n := 1) (As := [.int x2]) (rest := []) (rv := some (.int r4)) hC hW (52 + 2 * q2) (kX6_has hq2 c6) (Tr.b hq2) (Tr.o hq2) rfl q527 q529 qs33 q7 q530 ⟨rfl, rfl⟩ ⟨by decide +kernel, by decide +kernel, by decide +kernel⟩ ⟨Nat.le_of_ble_eq_true rfl, Nat.le_of_ble_eq_true rfl⟩ ⟨Nat.zero_le _, Nat.zero_le _⟩ rfl hl.1 rfl (st2 := [.int r4]) rfl (Nat.le_of_ble_eq_true rfl) dX7_label_12 (fun H locs hW => ?_)
    refine lv_if_ne (tgt := 20) hx hb dX7_label_15 (by decide) (fun h7 => ?_) (fun h7 => ?_)
    · have hf := it_f h7 hf
      refine lv_aload_n hx hb dX7_label_20 rfl (lv_at hl 0 rfl) ?_
      refine gfX7_224 hC hW (52 + 2 * q2) (Tr.b hq2) (Tr.o hq2) (q := (52 + 2 * q2 + 1)) rfl dX7_label_21 ?_
      refine lv_iload_n hx hb dX7_label_24 rfl (lv_at hl 3 rfl) ?_
      obtain ⟨h8, hf⟩ := gd_some hf
      refine Wd.iald hC hW (52 + 2 * q2 + 1) (Tr.bl hq2) (Tr.l hq2) h8 dX7_label_25 ?_
      obtain ⟨rfl, rfl⟩ := sp hf
      exact Wd.iret hC hW dX7_label_26
    · have hf := it_t h7 hf
      refine lv_iconst (v := (-1)) hx hb dX7_label_18 (by decide) ?_
      obtain ⟨rfl, rfl⟩ := sp hf
      exact Wd.iret hC hW dX7_label_19
abbrev rmX6_isTogether : Room := { frames := 0, cells := 0, slots := 0, locals := 0 }
def fX6_isTogether (N : Nat) (q : Nat) (x1 : Int32) (x2 : Int32) (σ : St) : Option (Int32 × St) := gd (ib x1 20) (gd (ib x2 20) (if (σ.1 (52 + 2 * q + 1) x1.toNatClampNeg) = (σ.1 (52 + 2 * q + 1) x2.toNatClampNeg) then some ((1 : Int32), σ) else some ((0 : Int32), σ)))
set_option maxHeartbeats 4000000 in
set_option maxRecDepth 100000 in
theorem kX6_isTogether {l : Launch} {D : va_G} {cA : Nat → ClassId} {ad : Nat → Nat} {N : Nat} {q : Nat} (hq : q < 4) {x1 : Int32} {x2 : Int32} {σ : St} {r : Int32} {σ' : St} (hf : fX6_isTogether N q x1 x2 σ = some (r, σ')) : MW kdX 140 l D cA ad ⟨RX6, "isTogether", "(II)Z"⟩ cX6_isTogether 3 (some .boolean) rmX6_isTogether [.ref (ad (52 + 2 * q)), .int x1, .int x2] σ (some (.int r)) σ' := by
  refine MW.of (by decide) (Nat.le_of_ble_eq_true rfl) ?_
  intro p e s m args below meth c ls hC hW hl
  have hx := hC.1
  have hb := hC.2.1
  have hown := hC.2.2.2.1
  have hts := hC.2.2.2.2.1
  have hl : lv_has ls 3 [(0, .ref (ad (52 + 2 * q))), (1, .int x1), (2, .int x2)] := hl
  unfold fX6_isTogether at hf
  refine lv_aload_n hx hb dX6_isTogether_0 rfl (lv_at hl 0 rfl) ?_
  refine gfX6_18 hC hW (52 + 2 * q) (Tr.b hq) (Tr.o hq) (q := (52 + 2 * q + 1)) rfl dX6_isTogether_1 ?_
  refine lv_iload_n hx hb dX6_isTogether_4 rfl (lv_at hl 1 rfl) ?_
  obtain ⟨h1, hf⟩ := gd_some hf
  refine Wd.iald hC hW (52 + 2 * q + 1) (Tr.bl hq) (Tr.l hq) h1 dX6_isTogether_5 ?_
  refine lv_aload_n hx hb dX6_isTogether_6 rfl (lv_at hl 0 rfl) ?_
  refine gfX6_18 hC hW (52 + 2 * q) (Tr.b hq) (Tr.o hq) (q := (52 + 2 * q + 1)) rfl dX6_isTogether_7 ?_
  refine lv_iload_n hx hb dX6_isTogether_10 rfl (lv_at hl 2 rfl) ?_
  obtain ⟨h2, hf⟩ := gd_some hf
  refine Wd.iald hC hW (52 + 2 * q + 1) (Tr.bl hq) (Tr.l hq) h2 dX6_isTogether_11 ?_
  refine lv_icmp_ne (tgt := 19) hx hb dX6_isTogether_12 (by decide) (fun h3 => ?_) (fun h3 => ?_)
  · have hf := it_f h3 hf
    refine lv_iconst (v := 0) hx hb dX6_isTogether_19 (by decide) ?_
    obtain ⟨rfl, rfl⟩ := sp hf
    exact Wd.zret hC hW (Or.inl rfl) dX6_isTogether_20
  · have hf := it_t h3 hf
    refine lv_iconst (v := 1) hx hb dX6_isTogether_15 (by decide) ?_
    refine lv_goto (tgt := 20) hx hb dX6_isTogether_16 (by decide) ?_
    obtain ⟨rfl, rfl⟩ := sp hf
    exact Wd.zret hC hW (Or.inr rfl) dX6_isTogether_20
abbrev rmX7_agree : Room := { frames := 1, cells := 0, slots := 0, locals := 22 }
def fX7_agree_84 (N : Nat) (q2 : Nat) (q8 : Nat) (K42 : Int32 → Int32 → St → Option (Int32 × St)) (K54 : Int32 → Int32 → Int32 → St → Option (Int32 × St)) (x5 : Int32) (x6 : Int32) (x7 : Int32) (σ : St) : Option (Int32 × St) := nx (x7 + (1 : Int32)) (fun v1 => (K54 x5 x6 v1 σ))
set_option maxHeartbeats 4000000 in
set_option maxRecDepth 100000 in
theorem wX7_agree_84 (hC : Cx RX7 cX7_agree 8 (some .int) D cA p s m args meth c) {N : Nat} {q2 : Nat} {q8 : Nat} (hq2 : q2 < 4) (hq8 : q8 < 4) {K42 : Int32 → Int32 → St → Option (Int32 × St)} {K54 : Int32 → Int32 → Int32 → St → Option (Int32 × St)} {x5 : Int32} {x6 : Int32} {x7 : Int32} {σ : St} {r : Int32} {σ' : St} (hK42 : ∀ (x5 : Int32) (x6 : Int32) (σ : St) (H : Heap) (locs : List Loc) (ls : Array Slot), K42 x5 x6 σ = some (r, σ') → Wd kdX 140 D cA ad s σ H locs → lv_has ls 8 [(3, .ref (ad (52 + 2 * q2))), (4, .ref (ad (52 + 2 * q8))), (5, .int x5), (6, .int x6)] → W p l e rmX7_agree s m args below meth c H locs 0 0 (EndW kdX 140 D cA ad below args s (some (.int r)) σ') (F0 m 42 ls [])) (hK54 : ∀ (x5 : Int32) (x6 : Int32) (x7 : Int32) (σ : St) (H : Heap) (locs : List Loc) (ls : Array Slot), K54 x5 x6 x7 σ = some (r, σ') → Wd kdX 140 D cA ad s σ H locs → lv_has ls 8 [(3, .ref (ad (52 + 2 * q2))), (4, .ref (ad (52 + 2 * q8))), (5, .int x5), (6, .int x6), (7, .int x7)] → W p l e rmX7_agree s m args below meth c H locs 0 0 (EndW kdX 140 D cA ad below args s (some (.int r)) σ') (F0 m 54 ls [])) {H : Heap} {locs : List Loc} {ls : Array Slot} (hf : fX7_agree_84 N q2 q8 K42 K54 x5 x6 x7 σ = some (r, σ')) (hW : Wd kdX 140 D cA ad s σ H locs) (hl : lv_has ls 8 [(3, .ref (ad (52 + 2 * q2))), (4, .ref (ad (52 + 2 * q8))), (5, .int x5), (6, .int x6), (7, .int x7)]) : W p l e rmX7_agree s m args below meth c H locs 0 0 (EndW kdX 140 D cA ad below args s (some (.int r)) σ') (F0 m 84 ls []) := by
  have hx := hC.1
  have hb := hC.2.1
  have hown := hC.2.2.2.1
  have hts := hC.2.2.2.2.1
  unfold fX7_agree_84 at hf
  obtain ⟨v1, ev1⟩ : ∃ y : Int32, y = x7 + (1 : Int32) := ⟨_, rfl⟩
  have hf := nx_at ev1 hf
  refine lv_iinc (v := v1) (lv' := [(7, .int v1), (3, .ref (ad (52 + 2 * q2))), (4, .ref (ad (52 + 2 * q8))), (5, .int x5), (6, .int x6)]) hx hb dX7_agree_84 hl (k := 4) rfl (by rw [ev1]; rfl) (by decide) rfl (fun ls hl => ?_)
  refine lv_goto (tgt := 54) hx hb dX7_agree_87 (by decide) ?_
  exact hK54 _ _ _ _ _ _ _ hf hW (lv_sub hl [1, 2, 3, 4, 0] rfl)
def fX7_agree_54 (N : Nat) (q2 : Nat) (q8 : Nat) (K42 : Int32 → Int32 → St → Option (Int32 × St)) : Nat → Int32 → Int32 → Int32 → St → Option (Int32 × St)
  | 0, _, _, _, _ => none
  | n + 1, x5, x6, x7, σ => if x6 ≤ x7 then nx (x6 + (1 : Int32)) (fun v2 => (K42 x5 v2 σ)) else bd (fX6_isTogether N q2 x6 x7 σ) (fun r3 s4 => bd (fX6_isTogether N q8 x6 x7 s4) (fun r6 s7 => if r3 = r6 then nx (x5 + (1 : Int32)) (fun v10 => (fX7_agree_84 N q2 q8 K42 (fX7_agree_54 N q2 q8 K42 n) v10 x6 x7 s7)) else (fX7_agree_84 N q2 q8 K42 (fX7_agree_54 N q2 q8 K42 n) x5 x6 x7 s7)))
set_option maxHeartbeats 4000000 in
set_option maxRecDepth 100000 in
theorem wX7_agree_54 (hC : Cx RX7 cX7_agree 8 (some .int) D cA p s m args meth c) {N : Nat} {q2 : Nat} {q8 : Nat} (hq2 : q2 < 4) (hq8 : q8 < 4) {K42 : Int32 → Int32 → St → Option (Int32 × St)} {r : Int32} {σ' : St} (hK42 : ∀ (x5 : Int32) (x6 : Int32) (σ : St) (H : Heap) (locs : List Loc) (ls : Array Slot), K42 x5 x6 σ = some (r, σ') → Wd kdX 140 D cA ad s σ H locs → lv_has ls 8 [(3, .ref (ad (52 + 2 * q2))), (4, .ref (ad (52 + 2 * q8))), (5, .int x5), (6, .int x6)] → W p l e rmX7_agree s m args below meth c H locs 0 0 (EndW kdX 140 D cA ad below args s (some (.int r)) σ') (F0 m 42 ls [])) : ∀ (n : Nat) (x5 : Int32) (x6 : Int32) (x7 : Int32) (σ : St) (H : Heap) (locs : List Loc) (ls : Array Slot), fX7_agree_54 N q2 q8 K42 n x5 x6 x7 σ = some (r, σ') → Wd kdX 140 D cA ad s σ H locs → lv_has ls 8 [(3, .ref (ad (52 + 2 * q2))), (4, .ref (ad (52 + 2 * q8))), (5, .int x5), (6, .int x6), (7, .int x7)] → W p l e rmX7_agree s m args below meth c H locs 0 0 (EndW kdX 140 D cA ad below args s (some (.int r)) σ') (F0 m 54 ls []) := by
  have hx := hC.1
  have hb := hC.2.1
  have hown := hC.2.2.2.1
  have hts := hC.2.2.2.2.1
  intro n
  induction n with
  | zero =>
    intro x5 x6 x7 σ H locs ls hf
    rw [fX7_agree_54] at hf
    cases hf
  | succ n ih =>
    intro x5 x6 x7 σ H locs ls hf hW hl
    rw [fX7_agree_54] at hf
    refine lv_iload hx hb dX7_agree_54 (lv_at hl 4 rfl) ?_
    refine lv_iload hx hb dX7_agree_56 (lv_at hl 3 rfl) ?_
    refine lv_icmp_ge (tgt := 90) hx hb dX7_agree_58 (by decide) (fun h1 => ?_) (fun h1 => ?_)
    · have hf := it_t h1 hf
      obtain ⟨v2, ev2⟩ : ∃ y : Int32, y = x6 + (1 : Int32) := ⟨_, rfl⟩
      have hf := nx_at ev2 hf
      refine lv_iinc (v := v2) (lv' := [(6, .int v2), (3, .ref (ad (52 + 2 * q2))), (4, .ref (ad (52 + 2 * q8))), (5, .int x5), (7, .int x7)]) hx hb dX7_agree_90 hl (k := 3) rfl (by rw [ev2]; rfl) (by decide) rfl (fun ls hl => ?_)
      refine lv_goto (tgt := 42) hx hb dX7_agree_93 (by decide) ?_
      exact hK42 _ _ _ _ _ _ hf hW (lv_sub hl [1, 2, 3, 0] rfl)
    · have hf := it_f h1 hf
      refine lv_aload_n hx hb dX7_agree_61 rfl (lv_at hl 0 rfl) ?_
      refine lv_iload hx hb dX7_agree_62 (lv_at hl 3 rfl) ?_
      refine lv_iload hx hb dX7_agree_64 (lv_at hl 4 rfl) ?_
      obtain ⟨r3, s4, c5, hf⟩ := bd_some hf
      refine Wd.callVN (n := 2) (As := [.int x6, .int x7]) (rest := []) (rv := some (.int r3)) hC hW (52 + 2 * q2) (kX6_isTogether hq2 c5) (Tr.b hq2) (Tr.o hq2) rfl q617 q619 qs46 q7 q620 ⟨rfl, rfl⟩ ⟨by decide +kernel, by decide +kernel, by decide +kernel⟩ ⟨Nat.le_of_ble_eq_true rfl, Nat.le_of_ble_eq_true rfl⟩ ⟨Nat.zero_le _, Nat.zero_le _⟩ rfl hl.1 rfl (st2 := [.int r3]) rfl (Nat.le_of_ble_eq_true rfl) dX7_agree_66 (fun H locs hW => ?_)
      refine lv_aload hx hb dX7_agree_69 (lv_at hl 1 rfl) ?_
      refine lv_iload hx hb dX7_agree_71 (lv_at hl 3 rfl) ?_
      refine lv_iload hx hb dX7_agree_73 (lv_at hl 4 rfl) ?_
      obtain ⟨r6, s7, c8, hf⟩ := bd_some hf
      refine Wd.callVN (n := 2) (As := [.int x6, .int x7]) (rest := [.int r3]) (rv := some (.int r6)) hC hW (52 + 2 * q8) (kX6_isTogether hq8 c8) (Tr.b hq8) (Tr.o hq8) rfl q617 q619 qs46 q7 q620 ⟨rfl, rfl⟩ ⟨by decide +kernel, by decide +kernel, by decide +kernel⟩ ⟨Nat.le_of_ble_eq_true rfl, Nat.le_of_ble_eq_true rfl⟩ ⟨Nat.zero_le _, Nat.zero_le _⟩ rfl hl.1 rfl (st2 := [.int r6, .int r3]) rfl (Nat.le_of_ble_eq_true rfl) dX7_agree_75 (fun H locs hW => ?_)
      refine lv_icmp_ne (tgt := 84) hx hb dX7_agree_78 (by decide) (fun h9 => ?_) (fun h9 => ?_)
      · have hf := it_f h9 hf
        exact wX7_agree_84 hC hq2 hq8 hK42 ih hf hW (lv_sub hl [0, 1, 2, 3, 4] rfl)
      · have hf := it_t h9 hf
        obtain ⟨v10, ev10⟩ : ∃ y : Int32, y = x5 + (1 : Int32) := ⟨_, rfl⟩
        have hf := nx_at ev10 hf
        refine lv_iinc (v := v10) (lv' := [(5, .int v10), (3, .ref (ad (52 + 2 * q2))), (4, .ref (ad (52 + 2 * q8))), (6, .int x6), (7, .int x7)]) hx hb dX7_agree_81 hl (k := 2) rfl (by rw [ev10]; rfl) (by decide) rfl (fun ls hl => ?_)
        exact wX7_agree_84 hC hq2 hq8 hK42 ih hf hW (lv_sub hl [1, 2, 0, 3, 4] rfl)
def fX7_agree_42 (N : Nat) (q2 : Nat) (q8 : Nat) : Nat → Int32 → Int32 → St → Option (Int32 × St)
  | 0, _, _, _ => none
  | n + 1, x5, x6, σ => if (σ.1 (52 + 2 * q2) 2) ≤ x6 then some (x5, σ) else (fX7_agree_54 N q2 q8 (fX7_agree_42 N q2 q8 n) N x5 x6 (0 : Int32) σ)
set_option maxHeartbeats 4000000 in
set_option maxRecDepth 100000 in
theorem wX7_agree_42 (hC : Cx RX7 cX7_agree 8 (some .int) D cA p s m args meth c) {N : Nat} {q2 : Nat} {q8 : Nat} (hq2 : q2 < 4) (hq8 : q8 < 4) {r : Int32} {σ' : St} : ∀ (n : Nat) (x5 : Int32) (x6 : Int32) (σ : St) (H : Heap) (locs : List Loc) (ls : Array Slot), fX7_agree_42 N q2 q8 n x5 x6 σ = some (r, σ') → Wd kdX 140 D cA ad s σ H locs → lv_has ls 8 [(3, .ref (ad (52 + 2 * q2))), (4, .ref (ad (52 + 2 * q8))), (5, .int x5), (6, .int x6)] → W p l e rmX7_agree s m args below meth c H locs 0 0 (EndW kdX 140 D cA ad below args s (some (.int r)) σ') (F0 m 42 ls []) := by
  have hx := hC.1
  have hb := hC.2.1
  have hown := hC.2.2.2.1
  have hts := hC.2.2.2.2.1
  intro n
  induction n with
  | zero =>
    intro x5 x6 σ H locs ls hf
    rw [fX7_agree_42] at hf
    cases hf
  | succ n ih =>
    intro x5 x6 σ H locs ls hf hW hl
    rw [fX7_agree_42] at hf
    refine lv_iload hx hb dX7_agree_42 (lv_at hl 3 rfl) ?_
    refine lv_aload_n hx hb dX7_agree_44 rfl (lv_at hl 0 rfl) ?_
    refine gfX7_165 hC hW (52 + 2 * q2) (Tr.b hq2) (Tr.o hq2) rfl dX7_agree_45 ?_
    refine lv_icmp_ge (tgt := 96) hx hb dX7_agree_48 (by decide) (fun h1 => ?_) (fun h1 => ?_)
    · have hf := it_t h1 hf
      refine lv_iload hx hb dX7_agree_96 (lv_at hl 2 rfl) ?_
      obtain ⟨rfl, rfl⟩ := sp hf
      exact Wd.iret hC hW dX7_agree_98
    · have hf := it_f h1 hf
      refine lv_iconst (v := 0) hx hb dX7_agree_51 (by decide) ?_
      refine lv_istore (lv' := [(7, .int (0 : Int32)), (3, .ref (ad (52 + 2 * q2))), (4, .ref (ad (52 + 2 * q8))), (5, .int x5), (6, .int x6)]) hx hb dX7_agree_52 hl (by decide) rfl (fun ls hl => ?_)
      exact wX7_agree_54 hC hq2 hq8 ih N _ _ _ _ _ _ _ hf hW (lv_sub hl [1, 2, 3, 4, 0] rfl)
def fX7_agree (N : Nat) (x1 : Int32) (x2 : Int32) (σ : St) : Option (Int32 × St) := bd (fX7_treeIn N x1 σ) (fun r1 s2 => oc r1 (bd (fX7_treeIn N x2 s2) (fun r4 s5 => oc r4 (some ((-1 : Int32), s5)) (fun q8 => some ((-1 : Int32), s5)))) (fun q2 => bd (fX7_treeIn N x2 s2) (fun r7 s8 => oc r7 (some ((-1 : Int32), s8)) (fun q8 => if (s8.1 (52 + 2 * q2) 2) = (s8.1 (52 + 2 * q8) 2) then (fX7_agree_42 N q2 q8 N (0 : Int32) (1 : Int32) s8) else some ((-1 : Int32), s8)))))
set_option maxHeartbeats 4000000 in
set_option maxRecDepth 100000 in
theorem kX7_agree {l : Launch} {D : va_G} {cA : Nat → ClassId} {ad : Nat → Nat} {N : Nat} {x1 : Int32} {x2 : Int32} {σ : St} {r : Int32} {σ' : St} (hf : fX7_agree N x1 x2 σ = some (r, σ')) : MW kdX 140 l D cA ad ⟨RX7, "agree", "(II)I"⟩ cX7_agree 8 (some .int) rmX7_agree [.ref (ad 0), .int x1, .int x2] σ (some (.int r)) σ' := by
  refine MW.of (by decide) (Nat.le_of_ble_eq_true rfl) ?_
  intro p e s m args below meth c ls hC hW hl
  have hx := hC.1
  have hb := hC.2.1
  have hown := hC.2.2.2.1
  have hts := hC.2.2.2.2.1
  have hl : lv_has ls 8 [(0, .ref (ad 0)), (1, .int x1), (2, .int x2)] := hl
  unfold fX7_agree at hf
  refine lv_aload_n hx hb dX7_agree_0 rfl (lv_at hl 0 rfl) ?_
  refine lv_iload_n hx hb dX7_agree_1 rfl (lv_at hl 1 rfl) ?_
  obtain ⟨r1, s2, c3, hf⟩ := bd_some hf
  cases r1 with
  | none =>
    have hf := oc_n hf
    refine Wd.callV (n := 1) (As := [.int x1]) (rest := []) (rv := some .null) hC hW 0 (kX7_treeIn c3) (by decide) rfl rfl q510 q512 qs32 q1 q513 ⟨rfl, rfl⟩ ⟨by decide +kernel, by decide +kernel, by decide +kernel⟩ ⟨Nat.le_of_ble_eq_true rfl, Nat.le_of_ble_eq_true rfl⟩ ⟨Nat.zero_le _, Nat.zero_le _⟩ rfl hl.1 rfl (st2 := [.null]) rfl (Nat.le_of_ble_eq_true rfl) dX7_agree_2 (fun H locs hW => ?_)
    refine lv_astore_nN (lv' := [(3, .null), (0, .ref (ad 0)), (1, .int x1), (2, .int x2)]) hx hb dX7_agree_5 rfl hl (by decide) rfl (fun ls hl => ?_)
    refine lv_aload_n hx hb dX7_agree_6 rfl (lv_at hl 1 rfl) ?_
    refine lv_iload_n hx hb dX7_agree_7 rfl (lv_at hl 3 rfl) ?_
    obtain ⟨r4, s5, c6, hf⟩ := bd_some hf
    cases r4 with
    | none =>
      have hf := oc_n hf
      refine Wd.callV (n := 1) (As := [.int x2]) (rest := []) (rv := some .null) hC hW 0 (kX7_treeIn c6) (by decide) rfl rfl q510 q512 qs32 q1 q513 ⟨rfl, rfl⟩ ⟨by decide +kernel, by decide +kernel, by decide +kernel⟩ ⟨Nat.le_of_ble_eq_true rfl, Nat.le_of_ble_eq_true rfl⟩ ⟨Nat.zero_le _, Nat.zero_le _⟩ rfl hl.1 rfl (st2 := [.null]) rfl (Nat.le_of_ble_eq_true rfl) dX7_agree_8 (fun H locs hW => ?_)
      refine lv_astoreN (lv' := [(4, .null), (3, .null), (0, .ref (ad 0)), (1, .int x1), (2, .int x2)]) hx hb dX7_agree_11 hl (by decide) rfl (fun ls hl => ?_)
      refine lv_aload_nN hx hb dX7_agree_13 rfl (lv_at hl 1 rfl) ?_
      refine lv_ifnullN (tgt := 34) hx hb dX7_agree_14 (by decide) ?_
      refine lv_iconst (v := (-1)) hx hb dX7_agree_34 (by decide) ?_
      obtain ⟨rfl, rfl⟩ := sp hf
      exact Wd.iret hC hW dX7_agree_35
    | some q8 =>
      have hf := oc_s hf
      have hq8 := treeIn_lt c6
      refine Wd.callV (n := 1) (As := [.int x2]) (rest := []) (rv := some (.ref (ad (52 + 2 * q8)))) hC hW 0 (kX7_treeIn c6) (by decide) rfl rfl q510 q512 qs32 q1 q513 ⟨rfl, rfl⟩ ⟨by decide +kernel, by decide +kernel, by decide +kernel⟩ ⟨Nat.le_of_ble_eq_true rfl, Nat.le_of_ble_eq_true rfl⟩ ⟨Nat.zero_le _, Nat.zero_le _⟩ rfl hl.1 rfl (st2 := [.ref (ad (52 + 2 * q8))]) rfl (Nat.le_of_ble_eq_true rfl) dX7_agree_8 (fun H locs hW => ?_)
      refine lv_astore (lv' := [(4, .ref (ad (52 + 2 * q8))), (3, .null), (0, .ref (ad 0)), (1, .int x1), (2, .int x2)]) hx hb dX7_agree_11 hl (by decide) rfl (fun ls hl => ?_)
      refine lv_aload_nN hx hb dX7_agree_13 rfl (lv_at hl 1 rfl) ?_
      refine lv_ifnullN (tgt := 34) hx hb dX7_agree_14 (by decide) ?_
      refine lv_iconst (v := (-1)) hx hb dX7_agree_34 (by decide) ?_
      obtain ⟨rfl, rfl⟩ := sp hf
      exact Wd.iret hC hW dX7_agree_35
  | some q2 =>
    have hf := oc_s hf
    have hq2 := treeIn_lt c3
    refine Wd.callV (n := 1) (As := [.int x1]) (rest := []) (rv := some (.ref (ad (52 + 2 * q2)))) hC hW 0 (kX7_treeIn c3) (by decide) rfl rfl q510 q512 qs32 q1 q513 ⟨rfl, rfl⟩ ⟨by decide +kernel, by decide +kernel, by decide +kernel⟩ ⟨Nat.le_of_ble_eq_true rfl, Nat.le_of_ble_eq_true rfl⟩ ⟨Nat.zero_le _, Nat.zero_le _⟩ rfl hl.1 rfl (st2 := [.ref (ad (52 + 2 * q2))]) rfl (Nat.le_of_ble_eq_true rfl) dX7_agree_2 (fun H locs hW => ?_)
    refine lv_astore_n (lv' := [(3, .ref (ad (52 + 2 * q2))), (0, .ref (ad 0)), (1, .int x1), (2, .int x2)]) hx hb dX7_agree_5 rfl hl (by decide) rfl (fun ls hl => ?_)
    refine lv_aload_n hx hb dX7_agree_6 rfl (lv_at hl 1 rfl) ?_
    refine lv_iload_n hx hb dX7_agree_7 rfl (lv_at hl 3 rfl) ?_
    obtain ⟨r7, s8, c9, hf⟩ := bd_some hf
    cases r7 with
    | none =>
      have hf := oc_n hf
      refine Wd.callV (n := 1) (As := [.int x2]) (rest := []) (rv := some .null) hC hW 0 (kX7_treeIn c9) (by decide) rfl rfl q510 q512 qs32 q1 q513 ⟨rfl, rfl⟩ ⟨by decide +kernel, by decide +kernel, by decide +kernel⟩ ⟨Nat.le_of_ble_eq_true rfl, Nat.le_of_ble_eq_true rfl⟩ ⟨Nat.zero_le _, Nat.zero_le _⟩ rfl hl.1 rfl (st2 := [.null]) rfl (Nat.le_of_ble_eq_true rfl) dX7_agree_8 (fun H locs hW => ?_)
      refine lv_astoreN (lv' := [(4, .null), (3, .ref (ad (52 + 2 * q2))), (0, .ref (ad 0)), (1, .int x1), (2, .int x2)]) hx hb dX7_agree_11 hl (by decide) rfl (fun ls hl => ?_)
      refine lv_aload_n hx hb dX7_agree_13 rfl (lv_at hl 1 rfl) ?_
      refine lv_ifnull hx hb dX7_agree_14 ?_
      refine lv_aloadN hx hb dX7_agree_17 (lv_at hl 0 rfl) ?_
      refine lv_ifnullN (tgt := 34) hx hb dX7_agree_19 (by decide) ?_
      refine lv_iconst (v := (-1)) hx hb dX7_agree_34 (by decide) ?_
      obtain ⟨rfl, rfl⟩ := sp hf
      exact Wd.iret hC hW dX7_agree_35
    | some q8 =>
      have hf := oc_s hf
      have hq8 := treeIn_lt c9
      refine Wd.callV (n := 1) (As := [.int x2]) (rest := []) (rv := some (.ref (ad (52 + 2 * q8)))) hC hW 0 (kX7_treeIn c9) (by decide) rfl rfl q510 q512 qs32 q1 q513 ⟨rfl, rfl⟩ ⟨by decide +kernel, by decide +kernel, by decide +kernel⟩ ⟨Nat.le_of_ble_eq_true rfl, Nat.le_of_ble_eq_true rfl⟩ ⟨Nat.zero_le _, Nat.zero_le _⟩ rfl hl.1 rfl (st2 := [.ref (ad (52 + 2 * q8))]) rfl (Nat.le_of_ble_eq_true rfl) dX7_agree_8 (fun H locs hW => ?_)
      refine lv_astore (lv' := [(4, .ref (ad (52 + 2 * q8))), (3, .ref (ad (52 + 2 * q2))), (0, .ref (ad 0)), (1, .int x1), (2, .int x2)]) hx hb dX7_agree_11 hl (by decide) rfl (fun ls hl => ?_)
      refine lv_aload_n hx hb dX7_agree_13 rfl (lv_at hl 1 rfl) ?_
      refine lv_ifnull hx hb dX7_agree_14 ?_
      refine lv_aload hx hb dX7_agree_17 (lv_at hl 0 rfl) ?_
      refine lv_ifnull hx hb dX7_agree_19 ?_
      refine lv_aload_n hx hb dX7_agree_22 rfl (lv_at hl 1 rfl) ?_
      refine gfX7_165 hC hW (52 + 2 * q2) (Tr.b hq2) (Tr.o hq2) rfl dX7_agree_23 ?_
      refine lv_aload hx hb dX7_agree_26 (lv_at hl 0 rfl) ?_
      refine gfX7_165 hC hW (52 + 2 * q8) (Tr.b hq8) (Tr.o hq8) rfl dX7_agree_28 ?_
      refine lv_icmp_eq (tgt := 36) hx hb dX7_agree_31 (by decide) (fun h10 => ?_) (fun h10 => ?_)
      · have hf := it_t h10 hf
        refine lv_iconst (v := 0) hx hb dX7_agree_36 (by decide) ?_
        refine lv_istore (lv' := [(5, .int (0 : Int32)), (4, .ref (ad (52 + 2 * q8))), (3, .ref (ad (52 + 2 * q2))), (0, .ref (ad 0)), (1, .int x1), (2, .int x2)]) hx hb dX7_agree_37 hl (by decide) rfl (fun ls hl => ?_)
        refine lv_iconst (v := 1) hx hb dX7_agree_39 (by decide) ?_
        refine lv_istore (lv' := [(6, .int (1 : Int32)), (5, .int (0 : Int32)), (4, .ref (ad (52 + 2 * q8))), (3, .ref (ad (52 + 2 * q2))), (0, .ref (ad 0)), (1, .int x1), (2, .int x2)]) hx hb dX7_agree_40 hl (by decide) rfl (fun ls hl => ?_)
        exact wX7_agree_42 hC hq2 hq8 N _ _ _ _ _ _ hf hW (lv_sub hl [3, 2, 1, 0] rfl)
      · have hf := it_f h10 hf
        refine lv_iconst (v := (-1)) hx hb dX7_agree_34 (by decide) ?_
        obtain ⟨rfl, rfl⟩ := sp hf
        exact Wd.iret hC hW dX7_agree_35
abbrev rmX7_sumToCluster : Room := { frames := 1, cells := 0, slots := 0, locals := 22 }
def fX7_sumToCluster_39 (N : Nat) (q : Nat) (K5 : Int32 → Int32 → Int32 → St → Option (Int32 × St)) (x2 : Int32) (x3 : Int32) (x4 : Int32) (σ : St) : Option (Int32 × St) := nx (x4 + (1 : Int32)) (fun v1 => (K5 x2 x3 v1 σ))
set_option maxHeartbeats 4000000 in
set_option maxRecDepth 100000 in
theorem wX7_sumToCluster_39 (hC : Cx RX7 cX7_sumToCluster 5 (some .int) D cA p s m args meth c) {N : Nat} {q : Nat} (hq : q < 4) {K5 : Int32 → Int32 → Int32 → St → Option (Int32 × St)} {x2 : Int32} {x3 : Int32} {x4 : Int32} {σ : St} {r : Int32} {σ' : St} (hK5 : ∀ (x2 : Int32) (x3 : Int32) (x4 : Int32) (σ : St) (H : Heap) (locs : List Loc) (ls : Array Slot), K5 x2 x3 x4 σ = some (r, σ') → Wd kdX 140 D cA ad s σ H locs → lv_has ls 5 [(0, .ref (ad 0)), (1, .ref (ad (52 + 2 * q))), (2, .int x2), (3, .int x3), (4, .int x4)] → W p l e rmX7_sumToCluster s m args below meth c H locs 0 0 (EndW kdX 140 D cA ad below args s (some (.int r)) σ') (F0 m 5 ls [])) {H : Heap} {locs : List Loc} {ls : Array Slot} (hf : fX7_sumToCluster_39 N q K5 x2 x3 x4 σ = some (r, σ')) (hW : Wd kdX 140 D cA ad s σ H locs) (hl : lv_has ls 5 [(0, .ref (ad 0)), (1, .ref (ad (52 + 2 * q))), (2, .int x2), (3, .int x3), (4, .int x4)]) : W p l e rmX7_sumToCluster s m args below meth c H locs 0 0 (EndW kdX 140 D cA ad below args s (some (.int r)) σ') (F0 m 39 ls []) := by
  have hx := hC.1
  have hb := hC.2.1
  have hown := hC.2.2.2.1
  have hts := hC.2.2.2.2.1
  unfold fX7_sumToCluster_39 at hf
  obtain ⟨v1, ev1⟩ : ∃ y : Int32, y = x4 + (1 : Int32) := ⟨_, rfl⟩
  have hf := nx_at ev1 hf
  refine lv_iinc (v := v1) (lv' := [(4, .int v1), (0, .ref (ad 0)), (1, .ref (ad (52 + 2 * q))), (2, .int x2), (3, .int x3)]) hx hb dX7_sumToCluster_39 hl (k := 4) rfl (by rw [ev1]; rfl) (by decide) rfl (fun ls hl => ?_)
  refine lv_goto (tgt := 5) hx hb dX7_sumToCluster_42 (by decide) ?_
  exact hK5 _ _ _ _ _ _ _ hf hW (lv_sub hl [1, 2, 3, 4, 0] rfl)
def fX7_sumToCluster_5 (N : Nat) (q : Nat) : Nat → Int32 → Int32 → Int32 → St → Option (Int32 × St)
  | 0, _, _, _, _ => none
  | n + 1, x2, x3, x4, σ => if (σ.1 (52 + 2 * q) 2) ≤ x4 then some (x3, σ) else bd (fX6_isTogether N q x4 x2 σ) (fun r2 s3 => if r2 = 0 then (fX7_sumToCluster_39 N q (fX7_sumToCluster_5 N q n) x2 x3 x4 s3) else gd (ib x2 20) (gd (ib x4 20) (nx (x3 + (s3.1 (60 + 1 * x2.toNatClampNeg) x4.toNatClampNeg)) (fun v8 => (fX7_sumToCluster_39 N q (fX7_sumToCluster_5 N q n) x2 v8 x4 s3)))))
set_option maxHeartbeats 4000000 in
set_option maxRecDepth 100000 in
theorem wX7_sumToCluster_5 (hC : Cx RX7 cX7_sumToCluster 5 (some .int) D cA p s m args meth c) {N : Nat} {q : Nat} (hq : q < 4) {r : Int32} {σ' : St} : ∀ (n : Nat) (x2 : Int32) (x3 : Int32) (x4 : Int32) (σ : St) (H : Heap) (locs : List Loc) (ls : Array Slot), fX7_sumToCluster_5 N q n x2 x3 x4 σ = some (r, σ') → Wd kdX 140 D cA ad s σ H locs → lv_has ls 5 [(0, .ref (ad 0)), (1, .ref (ad (52 + 2 * q))), (2, .int x2), (3, .int x3), (4, .int x4)] → W p l e rmX7_sumToCluster s m args below meth c H locs 0 0 (EndW kdX 140 D cA ad below args s (some (.int r)) σ') (F0 m 5 ls []) := by
  have hx := hC.1
  have hb := hC.2.1
  have hown := hC.2.2.2.1
  have hts := hC.2.2.2.2.1
  intro n
  induction n with
  | zero =>
    intro x2 x3 x4 σ H locs ls hf
    rw [fX7_sumToCluster_5] at hf
    cases hf
  | succ n ih =>
    intro x2 x3 x4 σ H locs ls hf hW hl
    rw [fX7_sumToCluster_5] at hf
    refine lv_iload hx hb dX7_sumToCluster_5 (lv_at hl 4 rfl) ?_
    refine lv_aload_n hx hb dX7_sumToCluster_7 rfl (lv_at hl 1 rfl) ?_
    refine gfX7_165 hC hW (52 + 2 * q) (Tr.b hq) (Tr.o hq) rfl dX7_sumToCluster_8 ?_
    refine lv_icmp_ge (tgt := 45) hx hb dX7_sumToCluster_11 (by decide) (fun h1 => ?_) (fun h1 => ?_)
    · have hf := it_t h1 hf
      refine lv_iload_n hx hb dX7_sumToCluster_45 rfl (lv_at hl 3 rfl) ?_
      obtain ⟨rfl, rfl⟩ := sp hf
      exact Wd.iret hC hW dX7_sumToCluster_46
    · have hf := it_f h1 hf
      refine lv_aload_n hx hb dX7_sumToCluster_14 rfl (lv_at hl 1 rfl) ?_
      refine lv_iload hx hb dX7_sumToCluster_15 (lv_at hl 4 rfl) ?_
      refine lv_iload_n hx hb dX7_sumToCluster_17 rfl (lv_at hl 2 rfl) ?_
      obtain ⟨r2, s3, c4, hf⟩ := bd_some hf
      refine Wd.callVN (n := 2) (As := [.int x4, .int x2]) (rest := []) (rv := some (.int r2)) hC hW (52 + 2 * q) (kX6_isTogether hq c4) (Tr.b hq) (Tr.o hq) rfl q617 q619 qs46 q7 q620 ⟨rfl, rfl⟩ ⟨by decide +kernel, by decide +kernel, by decide +kernel⟩ ⟨Nat.le_of_ble_eq_true rfl, Nat.le_of_ble_eq_true rfl⟩ ⟨Nat.zero_le _, Nat.zero_le _⟩ rfl hl.1 rfl (st2 := [.int r2]) rfl (Nat.le_of_ble_eq_true rfl) dX7_sumToCluster_18 (fun H locs hW => ?_)
      refine lv_if_eq (tgt := 39) hx hb dX7_sumToCluster_21 (by decide) (fun h5 => ?_) (fun h5 => ?_)
      · have hf := it_t h5 hf
        exact wX7_sumToCluster_39 hC hq ih hf hW (lv_sub hl [0, 1, 2, 3, 4] rfl)
      · have hf := it_f h5 hf
        refine lv_iload_n hx hb dX7_sumToCluster_24 rfl (lv_at hl 3 rfl) ?_
        refine lv_aload_n hx hb dX7_sumToCluster_25 rfl (lv_at hl 0 rfl) ?_
        refine gfX7_12 hC hW 0 (by decide) rfl (q := 1) rfl dX7_sumToCluster_26 ?_
        refine gfX7_60 hC hW 1 (by decide) rfl (q := 4) rfl dX7_sumToCluster_29 ?_
        refine lv_iload_n hx hb dX7_sumToCluster_32 rfl (lv_at hl 2 rfl) ?_
        obtain ⟨h6, hf⟩ := gd_some hf
        refine Wd.aald hC hW 4 ⟨by decide, by decide⟩ (by decide) rfl h6 dX7_sumToCluster_33 ?_
        refine lv_iload hx hb dX7_sumToCluster_34 (lv_at hl 4 rfl) ?_
        obtain ⟨h7, hf⟩ := gd_some hf
        refine Wd.iald hC hW (60 + 1 * x2.toNatClampNeg) (Rw.b60 h6) (Rw.k60 h6) h7 dX7_sumToCluster_36 ?_
        refine lv_iadd hx hb dX7_sumToCluster_37 ?_
        refine lv_topi (fun v8 ev8 => ?_)
        have hf := nx_at ev8 hf
        refine lv_istore_n (lv' := [(3, .int v8), (0, .ref (ad 0)), (1, .ref (ad (52 + 2 * q))), (2, .int x2), (4, .int x4)]) hx hb dX7_sumToCluster_38 rfl hl (by decide) rfl (fun ls hl => ?_)
        exact wX7_sumToCluster_39 hC hq ih hf hW (lv_sub hl [1, 2, 3, 0, 4] rfl)
def fX7_sumToCluster (N : Nat) (q : Nat) (x2 : Int32) (σ : St) : Option (Int32 × St) := (fX7_sumToCluster_5 N q N x2 (0 : Int32) (0 : Int32) σ)
set_option maxHeartbeats 4000000 in
set_option maxRecDepth 100000 in
theorem kX7_sumToCluster {l : Launch} {D : va_G} {cA : Nat → ClassId} {ad : Nat → Nat} {N : Nat} {q : Nat} (hq : q < 4) {x2 : Int32} {σ : St} {r : Int32} {σ' : St} (hf : fX7_sumToCluster N q x2 σ = some (r, σ')) : MW kdX 140 l D cA ad ⟨RX7, "sumToCluster", "(LDendroDesk$Tree;I)I"⟩ cX7_sumToCluster 5 (some .int) rmX7_sumToCluster [.ref (ad 0), .ref (ad (52 + 2 * q)), .int x2] σ (some (.int r)) σ' := by
  refine MW.of (by decide) (Nat.le_of_ble_eq_true rfl) ?_
  intro p e s m args below meth c ls hC hW hl
  have hx := hC.1
  have hb := hC.2.1
  have hown := hC.2.2.2.1
  have hts := hC.2.2.2.2.1
  have hl : lv_has ls 5 [(0, .ref (ad 0)), (1, .ref (ad (52 + 2 * q))), (2, .int x2)] := hl
  unfold fX7_sumToCluster at hf
  refine lv_iconst (v := 0) hx hb dX7_sumToCluster_0 (by decide) ?_
  refine lv_istore_n (lv' := [(3, .int (0 : Int32)), (0, .ref (ad 0)), (1, .ref (ad (52 + 2 * q))), (2, .int x2)]) hx hb dX7_sumToCluster_1 rfl hl (by decide) rfl (fun ls hl => ?_)
  refine lv_iconst (v := 0) hx hb dX7_sumToCluster_2 (by decide) ?_
  refine lv_istore (lv' := [(4, .int (0 : Int32)), (3, .int (0 : Int32)), (0, .ref (ad 0)), (1, .ref (ad (52 + 2 * q))), (2, .int x2)]) hx hb dX7_sumToCluster_3 hl (by decide) rfl (fun ls hl => ?_)
  exact wX7_sumToCluster_5 hC hq N _ _ _ _ _ _ _ hf hW (lv_sub hl [2, 3, 4, 1, 0] rfl)
abbrev rmX7_middle : Room := { frames := 2, cells := 0, slots := 0, locals := 46 }
def fX7_middle_92 (N : Nat) (q2 : Nat) (K43 : Int32 → Int32 → Int32 → Int32 → St → Option (Int32 × St)) (x2 : Int32) (x4 : Int32) (x5 : Int32) (x6 : Int32) (σ : St) : Option (Int32 × St) := nx (x6 + (1 : Int32)) (fun v1 => (K43 x2 x4 x5 v1 σ))
set_option maxHeartbeats 4000000 in
set_option maxRecDepth 100000 in
theorem wX7_middle_92 (hC : Cx RX7 cX7_middle 8 (some .int) D cA p s m args meth c) {N : Nat} {q2 : Nat} (hq2 : q2 < 4) {K43 : Int32 → Int32 → Int32 → Int32 → St → Option (Int32 × St)} {x2 : Int32} {x4 : Int32} {x5 : Int32} {x6 : Int32} {σ : St} {r : Int32} {σ' : St} (hK43 : ∀ (x2 : Int32) (x4 : Int32) (x5 : Int32) (x6 : Int32) (σ : St) (H : Heap) (locs : List Loc) (ls : Array Slot), K43 x2 x4 x5 x6 σ = some (r, σ') → Wd kdX 140 D cA ad s σ H locs → lv_has ls 8 [(0, .ref (ad 0)), (2, .int x2), (3, .ref (ad (52 + 2 * q2))), (4, .int x4), (5, .int x5), (6, .int x6)] → W p l e rmX7_middle s m args below meth c H locs 0 0 (EndW kdX 140 D cA ad below args s (some (.int r)) σ') (F0 m 43 ls [])) {H : Heap} {locs : List Loc} {ls : Array Slot} (hf : fX7_middle_92 N q2 K43 x2 x4 x5 x6 σ = some (r, σ')) (hW : Wd kdX 140 D cA ad s σ H locs) (hl : lv_has ls 8 [(0, .ref (ad 0)), (2, .int x2), (3, .ref (ad (52 + 2 * q2))), (4, .int x4), (5, .int x5), (6, .int x6)]) : W p l e rmX7_middle s m args below meth c H locs 0 0 (EndW kdX 140 D cA ad below args s (some (.int r)) σ') (F0 m 92 ls []) := by
  have hx := hC.1
  have hb := hC.2.1
  have hown := hC.2.2.2.1
  have hts := hC.2.2.2.2.1
  unfold fX7_middle_92 at hf
  obtain ⟨v1, ev1⟩ : ∃ y : Int32, y = x6 + (1 : Int32) := ⟨_, rfl⟩
  have hf := nx_at ev1 hf
  refine lv_iinc (v := v1) (lv' := [(6, .int v1), (0, .ref (ad 0)), (2, .int x2), (3, .ref (ad (52 + 2 * q2))), (4, .int x4), (5, .int x5)]) hx hb dX7_middle_92 hl (k := 5) rfl (by rw [ev1]; rfl) (by decide) rfl (fun ls hl => ?_)
  refine lv_goto (tgt := 43) hx hb dX7_middle_95 (by decide) ?_
  exact hK43 _ _ _ _ _ _ _ _ hf hW (lv_sub hl [1, 2, 3, 4, 5, 0] rfl)
def fX7_middle_84 (N : Nat) (q2 : Nat) (K43 : Int32 → Int32 → Int32 → Int32 → St → Option (Int32 × St)) (x2 : Int32) (x6 : Int32) (x7 : Int32) (σ : St) : Option (Int32 × St) := (fX7_middle_92 N q2 K43 x2 x6 x7 x6 σ)
set_option maxHeartbeats 4000000 in
set_option maxRecDepth 100000 in
theorem wX7_middle_84 (hC : Cx RX7 cX7_middle 8 (some .int) D cA p s m args meth c) {N : Nat} {q2 : Nat} (hq2 : q2 < 4) {K43 : Int32 → Int32 → Int32 → Int32 → St → Option (Int32 × St)} {x2 : Int32} {x6 : Int32} {x7 : Int32} {σ : St} {r : Int32} {σ' : St} (hK43 : ∀ (x2 : Int32) (x4 : Int32) (x5 : Int32) (x6 : Int32) (σ : St) (H : Heap) (locs : List Loc) (ls : Array Slot), K43 x2 x4 x5 x6 σ = some (r, σ') → Wd kdX 140 D cA ad s σ H locs → lv_has ls 8 [(0, .ref (ad 0)), (2, .int x2), (3, .ref (ad (52 + 2 * q2))), (4, .int x4), (5, .int x5), (6, .int x6)] → W p l e rmX7_middle s m args below meth c H locs 0 0 (EndW kdX 140 D cA ad below args s (some (.int r)) σ') (F0 m 43 ls [])) {H : Heap} {locs : List Loc} {ls : Array Slot} (hf : fX7_middle_84 N q2 K43 x2 x6 x7 σ = some (r, σ')) (hW : Wd kdX 140 D cA ad s σ H locs) (hl : lv_has ls 8 [(0, .ref (ad 0)), (2, .int x2), (3, .ref (ad (52 + 2 * q2))), (6, .int x6), (7, .int x7)]) : W p l e rmX7_middle s m args below meth c H locs 0 0 (EndW kdX 140 D cA ad below args s (some (.int r)) σ') (F0 m 84 ls []) := by
  have hx := hC.1
  have hb := hC.2.1
  have hown := hC.2.2.2.1
  have hts := hC.2.2.2.2.1
  unfold fX7_middle_84 at hf
  refine lv_iload hx hb dX7_middle_84 (lv_at hl 3 rfl) ?_
  refine lv_istore (lv' := [(4, .int x6), (0, .ref (ad 0)), (2, .int x2), (3, .ref (ad (52 + 2 * q2))), (6, .int x6), (7, .int x7)]) hx hb dX7_middle_86 hl (by decide) rfl (fun ls hl => ?_)
  refine lv_iload hx hb dX7_middle_88 (lv_at hl 5 rfl) ?_
  refine lv_istore (lv' := [(5, .int x7), (4, .int x6), (0, .ref (ad 0)), (2, .int x2), (3, .ref (ad (52 + 2 * q2))), (6, .int x6), (7, .int x7)]) hx hb dX7_middle_90 hl (by decide) rfl (fun ls hl => ?_)
  exact wX7_middle_92 hC hq2 hK43 hf hW (lv_sub hl [2, 3, 4, 1, 0, 5] rfl)
def fX7_middle_43 (N : Nat) (q2 : Nat) : Nat → Int32 → Int32 → Int32 → Int32 → St → Option (Int32 × St)
  | 0, _, _, _, _, _ => none
  | n + 1, x2, x4, x5, x6, σ => if (σ.1 (52 + 2 * q2) 2) ≤ x6 then some (x4, σ) else bd (fX6_isTogether N q2 x6 x2 σ) (fun r2 s3 => if r2 = 0 then (fX7_middle_92 N q2 (fX7_middle_43 N q2 n) x2 x4 x5 x6 s3) else bd (fX7_sumToCluster N q2 x6 s3) (fun r6 s7 => if x4 = (-1 : Int32) then (fX7_middle_84 N q2 (fX7_middle_43 N q2 n) x2 x6 r6 s7) else if x5 ≤ r6 then (fX7_middle_92 N q2 (fX7_middle_43 N q2 n) x2 x4 x5 x6 s7) else (fX7_middle_84 N q2 (fX7_middle_43 N q2 n) x2 x6 r6 s7)))
set_option maxHeartbeats 4000000 in
set_option maxRecDepth 100000 in
theorem wX7_middle_43 (hC : Cx RX7 cX7_middle 8 (some .int) D cA p s m args meth c) {N : Nat} {q2 : Nat} (hq2 : q2 < 4) {r : Int32} {σ' : St} : ∀ (n : Nat) (x2 : Int32) (x4 : Int32) (x5 : Int32) (x6 : Int32) (σ : St) (H : Heap) (locs : List Loc) (ls : Array Slot), fX7_middle_43 N q2 n x2 x4 x5 x6 σ = some (r, σ') → Wd kdX 140 D cA ad s σ H locs → lv_has ls 8 [(0, .ref (ad 0)), (2, .int x2), (3, .ref (ad (52 + 2 * q2))), (4, .int x4), (5, .int x5), (6, .int x6)] → W p l e rmX7_middle s m args below meth c H locs 0 0 (EndW kdX 140 D cA ad below args s (some (.int r)) σ') (F0 m 43 ls []) := by
  have hx := hC.1
  have hb := hC.2.1
  have hown := hC.2.2.2.1
  have hts := hC.2.2.2.2.1
  intro n
  induction n with
  | zero =>
    intro x2 x4 x5 x6 σ H locs ls hf
    rw [fX7_middle_43] at hf
    cases hf
  | succ n ih =>
    intro x2 x4 x5 x6 σ H locs ls hf hW hl
    rw [fX7_middle_43] at hf
    refine lv_iload hx hb dX7_middle_43 (lv_at hl 5 rfl) ?_
    refine lv_aload_n hx hb dX7_middle_45 rfl (lv_at hl 2 rfl) ?_
    refine gfX7_165 hC hW (52 + 2 * q2) (Tr.b hq2) (Tr.o hq2) rfl dX7_middle_46 ?_
    refine lv_icmp_ge (tgt := 98) hx hb dX7_middle_49 (by decide) (fun h1 => ?_) (fun h1 => ?_)
    · have hf := it_t h1 hf
      refine lv_iload hx hb dX7_middle_98 (lv_at hl 3 rfl) ?_
      obtain ⟨rfl, rfl⟩ := sp hf
      exact Wd.iret hC hW dX7_middle_100
    · have hf := it_f h1 hf
      refine lv_aload_n hx hb dX7_middle_52 rfl (lv_at hl 2 rfl) ?_
      refine lv_iload hx hb dX7_middle_53 (lv_at hl 5 rfl) ?_
      refine lv_iload_n hx hb dX7_middle_55 rfl (lv_at hl 1 rfl) ?_
      obtain ⟨r2, s3, c4, hf⟩ := bd_some hf
      refine Wd.callVN (n := 2) (As := [.int x6, .int x2]) (rest := []) (rv := some (.int r2)) hC hW (52 + 2 * q2) (kX6_isTogether hq2 c4) (Tr.b hq2) (Tr.o hq2) rfl q617 q619 qs46 q7 q620 ⟨rfl, rfl⟩ ⟨by decide +kernel, by decide +kernel, by decide +kernel⟩ ⟨Nat.le_of_ble_eq_true rfl, Nat.le_of_ble_eq_true rfl⟩ ⟨Nat.zero_le _, Nat.zero_le _⟩ rfl hl.1 rfl (st2 := [.int r2]) rfl (Nat.le_of_ble_eq_true rfl) dX7_middle_56 (fun H locs hW => ?_)
      refine lv_if_eq (tgt := 92) hx hb dX7_middle_59 (by decide) (fun h5 => ?_) (fun h5 => ?_)
      · have hf := it_t h5 hf
        exact wX7_middle_92 hC hq2 ih hf hW (lv_sub hl [0, 1, 2, 3, 4, 5] rfl)
      · have hf := it_f h5 hf
        refine lv_aload_n hx hb dX7_middle_62 rfl (lv_at hl 0 rfl) ?_
        refine lv_aload_n hx hb dX7_middle_63 rfl (lv_at hl 2 rfl) ?_
        refine lv_iload hx hb dX7_middle_64 (lv_at hl 5 rfl) ?_
        obtain ⟨r6, s7, c8, hf⟩ := bd_some hf
        refine Wd.callV (n := 2) (As := [.ref (ad (52 + 2 * q2)), .int x6]) (rest := []) (rv := some (.int r6)) hC hW 0 (kX7_sumToCluster hq2 c8) (by decide) rfl rfl q625 q627 qs47 q1 q628 ⟨rfl, rfl⟩ ⟨by decide +kernel, by decide +kernel, by decide +kernel⟩ ⟨Nat.le_of_ble_eq_true rfl, Nat.le_of_ble_eq_true rfl⟩ ⟨Nat.zero_le _, Nat.zero_le _⟩ rfl hl.1 rfl (st2 := [.int r6]) rfl (Nat.le_of_ble_eq_true rfl) dX7_middle_66 (fun H locs hW => ?_)
        refine lv_istore (lv' := [(7, .int r6), (0, .ref (ad 0)), (2, .int x2), (3, .ref (ad (52 + 2 * q2))), (4, .int x4), (5, .int x5), (6, .int x6)]) hx hb dX7_middle_69 hl (by decide) rfl (fun ls hl => ?_)
        refine lv_iload hx hb dX7_middle_71 (lv_at hl 4 rfl) ?_
        refine lv_iconst (v := (-1)) hx hb dX7_middle_73 (by decide) ?_
        refine lv_icmp_eq (tgt := 84) hx hb dX7_middle_74 (by decide) (fun h9 => ?_) (fun h9 => ?_)
        · have hf := it_t h9 hf
          exact wX7_middle_84 hC hq2 ih hf hW (lv_sub hl [1, 2, 3, 6, 0] rfl)
        · have hf := it_f h9 hf
          refine lv_iload hx hb dX7_middle_77 (lv_at hl 0 rfl) ?_
          refine lv_iload hx hb dX7_middle_79 (lv_at hl 5 rfl) ?_
          refine lv_icmp_ge (tgt := 92) hx hb dX7_middle_81 (by decide) (fun h10 => ?_) (fun h10 => ?_)
          · have hf := it_t h10 hf
            exact wX7_middle_92 hC hq2 ih hf hW (lv_sub hl [1, 2, 3, 4, 5, 6] rfl)
          · have hf := it_f h10 hf
            exact wX7_middle_84 hC hq2 ih hf hW (lv_sub hl [1, 2, 3, 6, 0] rfl)
def fX7_middle (N : Nat) (x1 : Int32) (x2 : Int32) (σ : St) : Option (Int32 × St) := bd (fX7_treeIn N x1 σ) (fun r1 s2 => oc r1 (some ((-1 : Int32), s2)) (fun q2 => bd (fX6_has N q2 x2 s2) (fun r4 s5 => if r4 = 0 then some ((-1 : Int32), s5) else if (s5.1 (52 + 2 * q2) 2) = (s5.1 1 0) then (fX7_middle_43 N q2 N x2 (-1 : Int32) (0 : Int32) (0 : Int32) s5) else some ((-1 : Int32), s5))))
set_option maxHeartbeats 4000000 in
set_option maxRecDepth 100000 in
theorem kX7_middle {l : Launch} {D : va_G} {cA : Nat → ClassId} {ad : Nat → Nat} {N : Nat} {x1 : Int32} {x2 : Int32} {σ : St} {r : Int32} {σ' : St} (hf : fX7_middle N x1 x2 σ = some (r, σ')) : MW kdX 140 l D cA ad ⟨RX7, "middle", "(II)I"⟩ cX7_middle 8 (some .int) rmX7_middle [.ref (ad 0), .int x1, .int x2] σ (some (.int r)) σ' := by
  refine MW.of (by decide) (Nat.le_of_ble_eq_true rfl) ?_
  intro p e s m args below meth c ls hC hW hl
  have hx := hC.1
  have hb := hC.2.1
  have hown := hC.2.2.2.1
  have hts := hC.2.2.2.2.1
  have hl : lv_has ls 8 [(0, .ref (ad 0)), (1, .int x1), (2, .int x2)] := hl
  unfold fX7_middle at hf
  refine lv_aload_n hx hb dX7_middle_0 rfl (lv_at hl 0 rfl) ?_
  refine lv_iload_n hx hb dX7_middle_1 rfl (lv_at hl 1 rfl) ?_
  obtain ⟨r1, s2, c3, hf⟩ := bd_some hf
  cases r1 with
  | none =>
    have hf := oc_n hf
    refine Wd.callV (n := 1) (As := [.int x1]) (rest := []) (rv := some .null) hC hW 0 (kX7_treeIn c3) (by decide) rfl rfl q510 q512 qs32 q1 q513 ⟨rfl, rfl⟩ ⟨by decide +kernel, by decide +kernel, by decide +kernel⟩ ⟨Nat.le_of_ble_eq_true rfl, Nat.le_of_ble_eq_true rfl⟩ ⟨Nat.zero_le _, Nat.zero_le _⟩ rfl hl.1 rfl (st2 := [.null]) rfl (Nat.le_of_ble_eq_true rfl) dX7_middle_2 (fun H locs hW => ?_)
    refine lv_astore_nN (lv' := [(3, .null), (0, .ref (ad 0)), (1, .int x1), (2, .int x2)]) hx hb dX7_middle_5 rfl hl (by decide) rfl (fun ls hl => ?_)
    refine lv_aload_nN hx hb dX7_middle_6 rfl (lv_at hl 0 rfl) ?_
    refine lv_ifnullN (tgt := 32) hx hb dX7_middle_7 (by decide) ?_
    refine lv_iconst (v := (-1)) hx hb dX7_middle_32 (by decide) ?_
    obtain ⟨rfl, rfl⟩ := sp hf
    exact Wd.iret hC hW dX7_middle_33
  | some q2 =>
    have hf := oc_s hf
    have hq2 := treeIn_lt c3
    refine Wd.callV (n := 1) (As := [.int x1]) (rest := []) (rv := some (.ref (ad (52 + 2 * q2)))) hC hW 0 (kX7_treeIn c3) (by decide) rfl rfl q510 q512 qs32 q1 q513 ⟨rfl, rfl⟩ ⟨by decide +kernel, by decide +kernel, by decide +kernel⟩ ⟨Nat.le_of_ble_eq_true rfl, Nat.le_of_ble_eq_true rfl⟩ ⟨Nat.zero_le _, Nat.zero_le _⟩ rfl hl.1 rfl (st2 := [.ref (ad (52 + 2 * q2))]) rfl (Nat.le_of_ble_eq_true rfl) dX7_middle_2 (fun H locs hW => ?_)
    refine lv_astore_n (lv' := [(3, .ref (ad (52 + 2 * q2))), (0, .ref (ad 0)), (1, .int x1), (2, .int x2)]) hx hb dX7_middle_5 rfl hl (by decide) rfl (fun ls hl => ?_)
    refine lv_aload_n hx hb dX7_middle_6 rfl (lv_at hl 0 rfl) ?_
    refine lv_ifnull hx hb dX7_middle_7 ?_
    refine lv_aload_n hx hb dX7_middle_10 rfl (lv_at hl 0 rfl) ?_
    refine lv_iload_n hx hb dX7_middle_11 rfl (lv_at hl 3 rfl) ?_
    obtain ⟨r4, s5, c6, hf⟩ := bd_some hf
    refine Wd.callVN (n := 1) (As := [.int x2]) (rest := []) (rv := some (.int r4)) hC hW (52 + 2 * q2) (kX6_has hq2 c6) (Tr.b hq2) (Tr.o hq2) rfl q527 q529 qs33 q7 q530 ⟨rfl, rfl⟩ ⟨by decide +kernel, by decide +kernel, by decide +kernel⟩ ⟨Nat.le_of_ble_eq_true rfl, Nat.le_of_ble_eq_true rfl⟩ ⟨Nat.zero_le _, Nat.zero_le _⟩ rfl hl.1 rfl (st2 := [.int r4]) rfl (Nat.le_of_ble_eq_true rfl) dX7_middle_12 (fun H locs hW => ?_)
    refine lv_if_eq (tgt := 32) hx hb dX7_middle_15 (by decide) (fun h7 => ?_) (fun h7 => ?_)
    · have hf := it_t h7 hf
      refine lv_iconst (v := (-1)) hx hb dX7_middle_32 (by decide) ?_
      obtain ⟨rfl, rfl⟩ := sp hf
      exact Wd.iret hC hW dX7_middle_33
    · have hf := it_f h7 hf
      refine lv_aload_n hx hb dX7_middle_18 rfl (lv_at hl 0 rfl) ?_
      refine gfX7_165 hC hW (52 + 2 * q2) (Tr.b hq2) (Tr.o hq2) rfl dX7_middle_19 ?_
      refine lv_aload_n hx hb dX7_middle_22 rfl (lv_at hl 1 rfl) ?_
      refine gfX7_12 hC hW 0 (by decide) rfl (q := 1) rfl dX7_middle_23 ?_
      refine gfX7_95 hC hW 1 (by decide) rfl rfl dX7_middle_26 ?_
      refine lv_icmp_eq (tgt := 34) hx hb dX7_middle_29 (by decide) (fun h8 => ?_) (fun h8 => ?_)
      · have hf := it_t h8 hf
        refine lv_iconst (v := (-1)) hx hb dX7_middle_34 (by decide) ?_
        refine lv_istore (lv' := [(4, .int (-1 : Int32)), (3, .ref (ad (52 + 2 * q2))), (0, .ref (ad 0)), (1, .int x1), (2, .int x2)]) hx hb dX7_middle_35 hl (by decide) rfl (fun ls hl => ?_)
        refine lv_iconst (v := 0) hx hb dX7_middle_37 (by decide) ?_
        refine lv_istore (lv' := [(5, .int (0 : Int32)), (4, .int (-1 : Int32)), (3, .ref (ad (52 + 2 * q2))), (0, .ref (ad 0)), (1, .int x1), (2, .int x2)]) hx hb dX7_middle_38 hl (by decide) rfl (fun ls hl => ?_)
        refine lv_iconst (v := 0) hx hb dX7_middle_40 (by decide) ?_
        refine lv_istore (lv' := [(6, .int (0 : Int32)), (5, .int (0 : Int32)), (4, .int (-1 : Int32)), (3, .ref (ad (52 + 2 * q2))), (0, .ref (ad 0)), (1, .int x1), (2, .int x2)]) hx hb dX7_middle_41 hl (by decide) rfl (fun ls hl => ?_)
        exact wX7_middle_43 hC hq2 N _ _ _ _ _ _ _ _ hf hW (lv_sub hl [4, 6, 3, 2, 1, 0] rfl)
      · have hf := it_f h8 hf
        refine lv_iconst (v := (-1)) hx hb dX7_middle_32 (by decide) ?_
        obtain ⟨rfl, rfl⟩ := sp hf
        exact Wd.iret hC hW dX7_middle_33
abbrev rmX8_points : Room := { frames := 0, cells := 0, slots := 0, locals := 0 }
def fX8_points_41 (N : Nat) : Nat → Int32 → St → Option (Int32 × St)
  | 0, _, _ => none
  | n + 1, x2, σ => if (20 : Int32) ≤ x2 then some ((σ.1 0 0), σ) else gd (ib x2 20) (nx (sI σ 2 x2.toNatClampNeg (0 : Int32)) (fun s3 => gd (ib x2 20) (nx (sI s3 3 x2.toNatClampNeg (0 : Int32)) (fun s5 => nx (x2 + (1 : Int32)) (fun v6 => ((fX8_points_41 N n) v6 s5))))))
set_option maxHeartbeats 4000000 in
set_option maxRecDepth 100000 in
theorem wX8_points_41 (hC : Cx RX8 cX8_points 3 (some .int) D cA p s m args meth c) {N : Nat} {r : Int32} {σ' : St} : ∀ (n : Nat) (x2 : Int32) (σ : St) (H : Heap) (locs : List Loc) (ls : Array Slot), fX8_points_41 N n x2 σ = some (r, σ') → Wd kdM 31 D cA ad s σ H locs → lv_has ls 3 [(0, .ref (ad 0)), (2, .int x2)] → W p l e rmX8_points s m args below meth c H locs 0 0 (EndW kdM 31 D cA ad below args s (some (.int r)) σ') (F0 m 41 ls []) := by
  have hx := hC.1
  have hb := hC.2.1
  have hown := hC.2.2.2.1
  have hts := hC.2.2.2.2.1
  intro n
  induction n with
  | zero =>
    intro x2 σ H locs ls hf
    rw [fX8_points_41] at hf
    cases hf
  | succ n ih =>
    intro x2 σ H locs ls hf hW hl
    rw [fX8_points_41] at hf
    refine lv_iload_n hx hb dX8_points_41 rfl (lv_at hl 1 rfl) ?_
    refine lv_bipush (v := 20) hx hb dX8_points_42 (by decide) ?_
    refine lv_icmp_ge (tgt := 67) hx hb dX8_points_44 (by decide) (fun h1 => ?_) (fun h1 => ?_)
    · have hf := it_t h1 hf
      refine lv_aload_n hx hb dX8_points_67 rfl (lv_at hl 0 rfl) ?_
      refine gfX8_107 hC hW 0 (by decide) rfl rfl dX8_points_68 ?_
      obtain ⟨rfl, rfl⟩ := sp hf
      exact Wd.iret hC hW dX8_points_71
    · have hf := it_f h1 hf
      refine lv_aload_n hx hb dX8_points_47 rfl (lv_at hl 0 rfl) ?_
      refine gfX8_13 hC hW 0 (by decide) rfl (q := 2) rfl dX8_points_48 ?_
      refine lv_iload_n hx hb dX8_points_51 rfl (lv_at hl 1 rfl) ?_
      refine lv_iconst (v := 0) hx hb dX8_points_52 (by decide) ?_
      obtain ⟨h2, hf⟩ := gd_some hf
      refine Wd.iast hC hW 2 (by decide) rfl h2 dX8_points_53 (fun H locs hW => ?_)
      obtain ⟨s3, es3, hf⟩ := nx_ex hf
      rw [← es3] at hW
      refine lv_aload_n hx hb dX8_points_54 rfl (lv_at hl 0 rfl) ?_
      refine gfX8_16 hC hW 0 (by decide) rfl (q := 3) rfl dX8_points_55 ?_
      refine lv_iload_n hx hb dX8_points_58 rfl (lv_at hl 1 rfl) ?_
      refine lv_iconst (v := 0) hx hb dX8_points_59 (by decide) ?_
      obtain ⟨h4, hf⟩ := gd_some hf
      refine Wd.iast hC hW 3 (by decide) rfl h4 dX8_points_60 (fun H locs hW => ?_)
      obtain ⟨s5, es5, hf⟩ := nx_ex hf
      rw [← es5] at hW
      obtain ⟨v6, ev6⟩ : ∃ y : Int32, y = x2 + (1 : Int32) := ⟨_, rfl⟩
      have hf := nx_at ev6 hf
      refine lv_iinc (v := v6) (lv' := [(2, .int v6), (0, .ref (ad 0))]) hx hb dX8_points_61 hl (k := 1) rfl (by rw [ev6]; rfl) (by decide) rfl (fun ls hl => ?_)
      refine lv_goto (tgt := 41) hx hb dX8_points_64 (by decide) ?_
      exact ih _ _ _ _ _ hf hW (lv_sub hl [1, 0] rfl)
def fX8_points_19 (N : Nat) : Nat → Int32 → St → Option (Int32 × St)
  | 0, _, _ => none
  | n + 1, x2, σ => if (400 : Int32) ≤ x2 then (fX8_points_41 N N (0 : Int32) σ) else gd (ib x2 400) (nx (sI σ 1 x2.toNatClampNeg (0 : Int32)) (fun s3 => nx (x2 + (1 : Int32)) (fun v4 => ((fX8_points_19 N n) v4 s3))))
set_option maxHeartbeats 4000000 in
set_option maxRecDepth 100000 in
theorem wX8_points_19 (hC : Cx RX8 cX8_points 3 (some .int) D cA p s m args meth c) {N : Nat} {r : Int32} {σ' : St} : ∀ (n : Nat) (x2 : Int32) (σ : St) (H : Heap) (locs : List Loc) (ls : Array Slot), fX8_points_19 N n x2 σ = some (r, σ') → Wd kdM 31 D cA ad s σ H locs → lv_has ls 3 [(0, .ref (ad 0)), (2, .int x2)] → W p l e rmX8_points s m args below meth c H locs 0 0 (EndW kdM 31 D cA ad below args s (some (.int r)) σ') (F0 m 19 ls []) := by
  have hx := hC.1
  have hb := hC.2.1
  have hown := hC.2.2.2.1
  have hts := hC.2.2.2.2.1
  intro n
  induction n with
  | zero =>
    intro x2 σ H locs ls hf
    rw [fX8_points_19] at hf
    cases hf
  | succ n ih =>
    intro x2 σ H locs ls hf hW hl
    rw [fX8_points_19] at hf
    refine lv_iload_n hx hb dX8_points_19 rfl (lv_at hl 1 rfl) ?_
    refine lv_sipush (v := 400) hx hb dX8_points_20 (by decide) ?_
    refine lv_icmp_ge (tgt := 39) hx hb dX8_points_23 (by decide) (fun h1 => ?_) (fun h1 => ?_)
    · have hf := it_t h1 hf
      refine lv_iconst (v := 0) hx hb dX8_points_39 (by decide) ?_
      refine lv_istore_n (lv' := [(2, .int (0 : Int32)), (0, .ref (ad 0))]) hx hb dX8_points_40 rfl hl (by decide) rfl (fun ls hl => ?_)
      exact wX8_points_41 hC N _ _ _ _ _ hf hW (lv_sub hl [1, 0] rfl)
    · have hf := it_f h1 hf
      refine lv_aload_n hx hb dX8_points_26 rfl (lv_at hl 0 rfl) ?_
      refine gfX8_7 hC hW 0 (by decide) rfl (q := 1) rfl dX8_points_27 ?_
      refine lv_iload_n hx hb dX8_points_30 rfl (lv_at hl 1 rfl) ?_
      refine lv_iconst (v := 0) hx hb dX8_points_31 (by decide) ?_
      obtain ⟨h2, hf⟩ := gd_some hf
      refine Wd.iast hC hW 1 (by decide) rfl h2 dX8_points_32 (fun H locs hW => ?_)
      obtain ⟨s3, es3, hf⟩ := nx_ex hf
      rw [← es3] at hW
      obtain ⟨v4, ev4⟩ : ∃ y : Int32, y = x2 + (1 : Int32) := ⟨_, rfl⟩
      have hf := nx_at ev4 hf
      refine lv_iinc (v := v4) (lv' := [(2, .int v4), (0, .ref (ad 0))]) hx hb dX8_points_33 hl (k := 1) rfl (by rw [ev4]; rfl) (by decide) rfl (fun ls hl => ?_)
      refine lv_goto (tgt := 19) hx hb dX8_points_36 (by decide) ?_
      exact ih _ _ _ _ _ hf hW (lv_sub hl [1, 0] rfl)
def fX8_points (N : Nat) (x1 : Int32) (σ : St) : Option (Int32 × St) := if x1 < 0 then some ((-1 : Int32), σ) else if x1 ≤ (20 : Int32) then nx (sI σ 0 0 x1) (fun s3 => (fX8_points_19 N N (0 : Int32) s3)) else some ((-1 : Int32), σ)
set_option maxHeartbeats 4000000 in
set_option maxRecDepth 100000 in
theorem kX8_points {l : Launch} {D : va_G} {cA : Nat → ClassId} {ad : Nat → Nat} {N : Nat} {x1 : Int32} {σ : St} {r : Int32} {σ' : St} (hf : fX8_points N x1 σ = some (r, σ')) : MW kdM 31 l D cA ad ⟨RX8, "points", "(I)I"⟩ cX8_points 3 (some .int) rmX8_points [.ref (ad 0), .int x1] σ (some (.int r)) σ' := by
  refine MW.of (by decide) (Nat.le_of_ble_eq_true rfl) ?_
  intro p e s m args below meth c ls hC hW hl
  have hx := hC.1
  have hb := hC.2.1
  have hown := hC.2.2.2.1
  have hts := hC.2.2.2.2.1
  have hl : lv_has ls 3 [(0, .ref (ad 0)), (1, .int x1)] := hl
  unfold fX8_points at hf
  refine lv_iload_n hx hb dX8_points_0 rfl (lv_at hl 1 rfl) ?_
  refine lv_if_lt (tgt := 10) hx hb dX8_points_1 (by decide) (fun h1 => ?_) (fun h1 => ?_)
  · have hf := it_t h1 hf
    refine lv_iconst (v := (-1)) hx hb dX8_points_10 (by decide) ?_
    obtain ⟨rfl, rfl⟩ := sp hf
    exact Wd.iret hC hW dX8_points_11
  · have hf := it_f h1 hf
    refine lv_iload_n hx hb dX8_points_4 rfl (lv_at hl 1 rfl) ?_
    refine lv_bipush (v := 20) hx hb dX8_points_5 (by decide) ?_
    refine lv_icmp_le (tgt := 12) hx hb dX8_points_7 (by decide) (fun h2 => ?_) (fun h2 => ?_)
    · have hf := it_t h2 hf
      refine lv_aload_n hx hb dX8_points_12 rfl (lv_at hl 0 rfl) ?_
      refine lv_iload_n hx hb dX8_points_13 rfl (lv_at hl 1 rfl) ?_
      refine pgfX8_107 hC hW 0 (by decide) rfl rfl dX8_points_14 (fun H locs hW => ?_)
      obtain ⟨s3, es3, hf⟩ := nx_ex hf
      rw [← es3] at hW
      refine lv_iconst (v := 0) hx hb dX8_points_17 (by decide) ?_
      refine lv_istore_n (lv' := [(2, .int (0 : Int32)), (0, .ref (ad 0)), (1, .int x1)]) hx hb dX8_points_18 rfl hl (by decide) rfl (fun ls hl => ?_)
      exact wX8_points_19 hC N _ _ _ _ _ hf hW (lv_sub hl [1, 0] rfl)
    · have hf := it_f h2 hf
      refine lv_iconst (v := (-1)) hx hb dX8_points_10 (by decide) ?_
      obtain ⟨rfl, rfl⟩ := sp hf
      exact Wd.iret hC hW dX8_points_11
abbrev rmX8_isIn : Room := { frames := 0, cells := 0, slots := 0, locals := 0 }
def fX8_isIn (N : Nat) (x0 : Int32) (x1 : Int32) (σ : St) : Option (Int32 × St) := if x0 < 0 then some ((0 : Int32), σ) else if x1 ≤ x0 then some ((0 : Int32), σ) else some ((1 : Int32), σ)
set_option maxHeartbeats 4000000 in
set_option maxRecDepth 100000 in
theorem kX8_isIn {l : Launch} {D : va_G} {cA : Nat → ClassId} {ad : Nat → Nat} {N : Nat} {x0 : Int32} {x1 : Int32} {σ : St} {r : Int32} {σ' : St} (hf : fX8_isIn N x0 x1 σ = some (r, σ')) : MW kdM 31 l D cA ad ⟨RX8, "isIn", "(II)Z"⟩ cX8_isIn 2 (some .boolean) rmX8_isIn [.int x0, .int x1] σ (some (.int r)) σ' := by
  refine MW.of (by decide) (Nat.le_of_ble_eq_true rfl) ?_
  intro p e s m args below meth c ls hC hW hl
  have hx := hC.1
  have hb := hC.2.1
  have hown := hC.2.2.2.1
  have hts := hC.2.2.2.2.1
  have hl : lv_has ls 2 [(0, .int x0), (1, .int x1)] := hl
  unfold fX8_isIn at hf
  refine lv_iload_n hx hb dX8_isIn_0 rfl (lv_at hl 0 rfl) ?_
  refine lv_if_lt (tgt := 13) hx hb dX8_isIn_1 (by decide) (fun h1 => ?_) (fun h1 => ?_)
  · have hf := it_t h1 hf
    refine lv_iconst (v := 0) hx hb dX8_isIn_13 (by decide) ?_
    obtain ⟨rfl, rfl⟩ := sp hf
    exact Wd.zret hC hW (Or.inl rfl) dX8_isIn_14
  · have hf := it_f h1 hf
    refine lv_iload_n hx hb dX8_isIn_4 rfl (lv_at hl 0 rfl) ?_
    refine lv_iload_n hx hb dX8_isIn_5 rfl (lv_at hl 1 rfl) ?_
    refine lv_icmp_ge (tgt := 13) hx hb dX8_isIn_6 (by decide) (fun h2 => ?_) (fun h2 => ?_)
    · have hf := it_t h2 hf
      refine lv_iconst (v := 0) hx hb dX8_isIn_13 (by decide) ?_
      obtain ⟨rfl, rfl⟩ := sp hf
      exact Wd.zret hC hW (Or.inl rfl) dX8_isIn_14
    · have hf := it_f h2 hf
      refine lv_iconst (v := 1) hx hb dX8_isIn_9 (by decide) ?_
      refine lv_goto (tgt := 14) hx hb dX8_isIn_10 (by decide) ?_
      obtain ⟨rfl, rfl⟩ := sp hf
      exact Wd.zret hC hW (Or.inr rfl) dX8_isIn_14
abbrev rmX8_sets : Room := { frames := 0, cells := 0, slots := 0, locals := 0 }
def fX8_sets (N : Nat) (x1 : Int32) (x2 : Int32) (x3 : Int32) (σ : St) : Option (Unit × St) := gd (ib (((20 : Int32) * x1) + x2) 400) (nx (sI σ 1 (((20 : Int32) * x1) + x2).toNatClampNeg x3) (fun s2 => gd (ib (((20 : Int32) * x2) + x1) 400) (nx (sI s2 1 (((20 : Int32) * x2) + x1).toNatClampNeg x3) (fun s4 => some ((), s4)))))
set_option maxHeartbeats 4000000 in
set_option maxRecDepth 100000 in
theorem kX8_sets {l : Launch} {D : va_G} {cA : Nat → ClassId} {ad : Nat → Nat} {N : Nat} {x1 : Int32} {x2 : Int32} {x3 : Int32} {σ : St} {r : Unit} {σ' : St} (hf : fX8_sets N x1 x2 x3 σ = some (r, σ')) : MW kdM 31 l D cA ad ⟨RX8, "sets", "(III)V"⟩ cX8_sets 4 none rmX8_sets [.ref (ad 0), .int x1, .int x2, .int x3] σ none σ' := by
  refine MW.of (by decide) (Nat.le_of_ble_eq_true rfl) ?_
  intro p e s m args below meth c ls hC hW hl
  have hx := hC.1
  have hb := hC.2.1
  have hown := hC.2.2.2.1
  have hts := hC.2.2.2.2.1
  have hl : lv_has ls 4 [(0, .ref (ad 0)), (1, .int x1), (2, .int x2), (3, .int x3)] := hl
  unfold fX8_sets at hf
  refine lv_aload_n hx hb dX8_sets_0 rfl (lv_at hl 0 rfl) ?_
  refine gfX8_7 hC hW 0 (by decide) rfl (q := 1) rfl dX8_sets_1 ?_
  refine lv_bipush (v := 20) hx hb dX8_sets_4 (by decide) ?_
  refine lv_iload_n hx hb dX8_sets_6 rfl (lv_at hl 1 rfl) ?_
  refine lv_imul hx hb dX8_sets_7 ?_
  refine lv_iload_n hx hb dX8_sets_8 rfl (lv_at hl 2 rfl) ?_
  refine lv_iadd hx hb dX8_sets_9 ?_
  refine lv_iload_n hx hb dX8_sets_10 rfl (lv_at hl 3 rfl) ?_
  obtain ⟨h1, hf⟩ := gd_some hf
  refine Wd.iast hC hW 1 (by decide) rfl h1 dX8_sets_11 (fun H locs hW => ?_)
  obtain ⟨s2, es2, hf⟩ := nx_ex hf
  rw [← es2] at hW
  refine lv_aload_n hx hb dX8_sets_12 rfl (lv_at hl 0 rfl) ?_
  refine gfX8_7 hC hW 0 (by decide) rfl (q := 1) rfl dX8_sets_13 ?_
  refine lv_bipush (v := 20) hx hb dX8_sets_16 (by decide) ?_
  refine lv_iload_n hx hb dX8_sets_18 rfl (lv_at hl 2 rfl) ?_
  refine lv_imul hx hb dX8_sets_19 ?_
  refine lv_iload_n hx hb dX8_sets_20 rfl (lv_at hl 1 rfl) ?_
  refine lv_iadd hx hb dX8_sets_21 ?_
  refine lv_iload_n hx hb dX8_sets_22 rfl (lv_at hl 3 rfl) ?_
  obtain ⟨h3, hf⟩ := gd_some hf
  refine Wd.iast hC hW 1 (by decide) rfl h3 dX8_sets_23 (fun H locs hW => ?_)
  obtain ⟨s4, es4, hf⟩ := nx_ex hf
  rw [← es4] at hW
  obtain ⟨-, rfl⟩ := sp hf
  exact Wd.vret hC hW dX8_sets_24
abbrev rmX8_put : Room := { frames := 1, cells := 0, slots := 0, locals := 23 }
def fX8_put (N : Nat) (x1 : Int32) (x2 : Int32) (x3 : Int32) (σ : St) : Option (Int32 × St) := bd (fX8_isIn N x1 (σ.1 0 0) σ) (fun r1 s2 => if r1 = 0 then some ((0 : Int32), s2) else bd (fX8_isIn N x2 (s2.1 0 0) s2) (fun r5 s6 => if r5 = 0 then some ((0 : Int32), s6) else if x1 = x2 then some ((0 : Int32), s6) else bd (fX8_isIn N x3 (2000001 : Int32) s6) (fun r10 s11 => if r10 = 0 then some ((0 : Int32), s11) else bd (fX8_sets N x1 x2 x3 s11) (fun r14 s15 => some ((1 : Int32), s15)))))
set_option maxHeartbeats 4000000 in
set_option maxRecDepth 100000 in
theorem kX8_put {l : Launch} {D : va_G} {cA : Nat → ClassId} {ad : Nat → Nat} {N : Nat} {x1 : Int32} {x2 : Int32} {x3 : Int32} {σ : St} {r : Int32} {σ' : St} (hf : fX8_put N x1 x2 x3 σ = some (r, σ')) : MW kdM 31 l D cA ad ⟨RX8, "put", "(III)Z"⟩ cX8_put 4 (some .boolean) rmX8_put [.ref (ad 0), .int x1, .int x2, .int x3] σ (some (.int r)) σ' := by
  refine MW.of (by decide) (Nat.le_of_ble_eq_true rfl) ?_
  intro p e s m args below meth c ls hC hW hl
  have hx := hC.1
  have hb := hC.2.1
  have hown := hC.2.2.2.1
  have hts := hC.2.2.2.2.1
  have hl : lv_has ls 4 [(0, .ref (ad 0)), (1, .int x1), (2, .int x2), (3, .int x3)] := hl
  unfold fX8_put at hf
  refine lv_iload_n hx hb dX8_put_0 rfl (lv_at hl 1 rfl) ?_
  refine lv_aload_n hx hb dX8_put_1 rfl (lv_at hl 0 rfl) ?_
  refine gfX8_107 hC hW 0 (by decide) rfl rfl dX8_put_2 ?_
  obtain ⟨r1, s2, c3, hf⟩ := bd_some hf
  refine Wd.callS (n := 2) (As := [.int x1, .int (σ.1 0 0)]) (rest := []) (rv := some (.int r1)) hC hW (kX8_isIn c3) q762 q763 q8 q764 ⟨rfl, rfl⟩ ⟨by decide +kernel, by decide +kernel, by decide +kernel⟩ ⟨Nat.le_of_ble_eq_true rfl, Nat.le_of_ble_eq_true rfl⟩ ⟨Nat.zero_le _, Nat.zero_le _⟩ rfl hl.1 rfl (st2 := [.int r1]) rfl (Nat.le_of_ble_eq_true rfl) dX8_put_5 (fun H locs hW => ?_)
  refine lv_if_eq (tgt := 36) hx hb dX8_put_8 (by decide) (fun h4 => ?_) (fun h4 => ?_)
  · have hf := it_t h4 hf
    refine lv_iconst (v := 0) hx hb dX8_put_36 (by decide) ?_
    obtain ⟨rfl, rfl⟩ := sp hf
    exact Wd.zret hC hW (Or.inl rfl) dX8_put_37
  · have hf := it_f h4 hf
    refine lv_iload_n hx hb dX8_put_11 rfl (lv_at hl 2 rfl) ?_
    refine lv_aload_n hx hb dX8_put_12 rfl (lv_at hl 0 rfl) ?_
    refine gfX8_107 hC hW 0 (by decide) rfl rfl dX8_put_13 ?_
    obtain ⟨r5, s6, c7, hf⟩ := bd_some hf
    refine Wd.callS (n := 2) (As := [.int x2, .int (s2.1 0 0)]) (rest := []) (rv := some (.int r5)) hC hW (kX8_isIn c7) q762 q763 q8 q764 ⟨rfl, rfl⟩ ⟨by decide +kernel, by decide +kernel, by decide +kernel⟩ ⟨Nat.le_of_ble_eq_true rfl, Nat.le_of_ble_eq_true rfl⟩ ⟨Nat.zero_le _, Nat.zero_le _⟩ rfl hl.1 rfl (st2 := [.int r5]) rfl (Nat.le_of_ble_eq_true rfl) dX8_put_16 (fun H locs hW => ?_)
    refine lv_if_eq (tgt := 36) hx hb dX8_put_19 (by decide) (fun h8 => ?_) (fun h8 => ?_)
    · have hf := it_t h8 hf
      refine lv_iconst (v := 0) hx hb dX8_put_36 (by decide) ?_
      obtain ⟨rfl, rfl⟩ := sp hf
      exact Wd.zret hC hW (Or.inl rfl) dX8_put_37
    · have hf := it_f h8 hf
      refine lv_iload_n hx hb dX8_put_22 rfl (lv_at hl 1 rfl) ?_
      refine lv_iload_n hx hb dX8_put_23 rfl (lv_at hl 2 rfl) ?_
      refine lv_icmp_eq (tgt := 36) hx hb dX8_put_24 (by decide) (fun h9 => ?_) (fun h9 => ?_)
      · have hf := it_t h9 hf
        refine lv_iconst (v := 0) hx hb dX8_put_36 (by decide) ?_
        obtain ⟨rfl, rfl⟩ := sp hf
        exact Wd.zret hC hW (Or.inl rfl) dX8_put_37
      · have hf := it_f h9 hf
        refine lv_iload_n hx hb dX8_put_27 rfl (lv_at hl 3 rfl) ?_
        refine lv_ldc hx hb hown (hts _ q765) dX8_put_28 ?_
        obtain ⟨r10, s11, c12, hf⟩ := bd_some hf
        refine Wd.callS (n := 2) (As := [.int x3, .int (2000001 : Int32)]) (rest := []) (rv := some (.int r10)) hC hW (kX8_isIn c12) q762 q763 q8 q764 ⟨rfl, rfl⟩ ⟨by decide +kernel, by decide +kernel, by decide +kernel⟩ ⟨Nat.le_of_ble_eq_true rfl, Nat.le_of_ble_eq_true rfl⟩ ⟨Nat.zero_le _, Nat.zero_le _⟩ rfl hl.1 rfl (st2 := [.int r10]) rfl (Nat.le_of_ble_eq_true rfl) dX8_put_30 (fun H locs hW => ?_)
        refine lv_if_ne (tgt := 38) hx hb dX8_put_33 (by decide) (fun h13 => ?_) (fun h13 => ?_)
        · have hf := it_f h13 hf
          refine lv_aload_n hx hb dX8_put_38 rfl (lv_at hl 0 rfl) ?_
          refine lv_iload_n hx hb dX8_put_39 rfl (lv_at hl 1 rfl) ?_
          refine lv_iload_n hx hb dX8_put_40 rfl (lv_at hl 2 rfl) ?_
          refine lv_iload_n hx hb dX8_put_41 rfl (lv_at hl 3 rfl) ?_
          obtain ⟨r14, s15, c16, hf⟩ := bd_some hf
          refine Wd.callV (n := 3) (As := [.int x1, .int x2, .int x3]) (rest := []) (rv := none) hC hW 0 (kX8_sets c16) (by decide) rfl rfl q766 q768 qs48 q8 q769 ⟨rfl, rfl⟩ ⟨by decide +kernel, by decide +kernel, by decide +kernel⟩ ⟨Nat.le_of_ble_eq_true rfl, Nat.le_of_ble_eq_true rfl⟩ ⟨Nat.zero_le _, Nat.zero_le _⟩ rfl hl.1 rfl (st2 := []) rfl (Nat.le_of_ble_eq_true rfl) dX8_put_42 (fun H locs hW => ?_)
          refine lv_iconst (v := 1) hx hb dX8_put_45 (by decide) ?_
          obtain ⟨rfl, rfl⟩ := sp hf
          exact Wd.zret hC hW (Or.inr rfl) dX8_put_46
        · have hf := it_t h13 hf
          refine lv_iconst (v := 0) hx hb dX8_put_36 (by decide) ?_
          obtain ⟨rfl, rfl⟩ := sp hf
          exact Wd.zret hC hW (Or.inl rfl) dX8_put_37
abbrev rmX8_distance : Room := { frames := 1, cells := 0, slots := 0, locals := 21 }
def fX8_distance (N : Nat) (x1 : Int32) (x2 : Int32) (σ : St) : Option (Int32 × St) := bd (fX8_isIn N x1 (σ.1 0 0) σ) (fun r1 s2 => if r1 = 0 then some ((-1 : Int32), s2) else bd (fX8_isIn N x2 (s2.1 0 0) s2) (fun r5 s6 => if r5 = 0 then some ((-1 : Int32), s6) else gd (ib (((20 : Int32) * x1) + x2) 400) (some ((s6.1 1 (((20 : Int32) * x1) + x2).toNatClampNeg), s6))))
set_option maxHeartbeats 4000000 in
set_option maxRecDepth 100000 in
theorem kX8_distance {l : Launch} {D : va_G} {cA : Nat → ClassId} {ad : Nat → Nat} {N : Nat} {x1 : Int32} {x2 : Int32} {σ : St} {r : Int32} {σ' : St} (hf : fX8_distance N x1 x2 σ = some (r, σ')) : MW kdM 31 l D cA ad ⟨RX8, "distance", "(II)I"⟩ cX8_distance 3 (some .int) rmX8_distance [.ref (ad 0), .int x1, .int x2] σ (some (.int r)) σ' := by
  refine MW.of (by decide) (Nat.le_of_ble_eq_true rfl) ?_
  intro p e s m args below meth c ls hC hW hl
  have hx := hC.1
  have hb := hC.2.1
  have hown := hC.2.2.2.1
  have hts := hC.2.2.2.2.1
  have hl : lv_has ls 3 [(0, .ref (ad 0)), (1, .int x1), (2, .int x2)] := hl
  unfold fX8_distance at hf
  refine lv_iload_n hx hb dX8_distance_0 rfl (lv_at hl 1 rfl) ?_
  refine lv_aload_n hx hb dX8_distance_1 rfl (lv_at hl 0 rfl) ?_
  refine gfX8_107 hC hW 0 (by decide) rfl rfl dX8_distance_2 ?_
  obtain ⟨r1, s2, c3, hf⟩ := bd_some hf
  refine Wd.callS (n := 2) (As := [.int x1, .int (σ.1 0 0)]) (rest := []) (rv := some (.int r1)) hC hW (kX8_isIn c3) q762 q763 q8 q764 ⟨rfl, rfl⟩ ⟨by decide +kernel, by decide +kernel, by decide +kernel⟩ ⟨Nat.le_of_ble_eq_true rfl, Nat.le_of_ble_eq_true rfl⟩ ⟨Nat.zero_le _, Nat.zero_le _⟩ rfl hl.1 rfl (st2 := [.int r1]) rfl (Nat.le_of_ble_eq_true rfl) dX8_distance_5 (fun H locs hW => ?_)
  refine lv_if_eq (tgt := 36) hx hb dX8_distance_8 (by decide) (fun h4 => ?_) (fun h4 => ?_)
  · have hf := it_t h4 hf
    refine lv_iconst (v := (-1)) hx hb dX8_distance_36 (by decide) ?_
    obtain ⟨rfl, rfl⟩ := sp hf
    exact Wd.iret hC hW dX8_distance_37
  · have hf := it_f h4 hf
    refine lv_iload_n hx hb dX8_distance_11 rfl (lv_at hl 2 rfl) ?_
    refine lv_aload_n hx hb dX8_distance_12 rfl (lv_at hl 0 rfl) ?_
    refine gfX8_107 hC hW 0 (by decide) rfl rfl dX8_distance_13 ?_
    obtain ⟨r5, s6, c7, hf⟩ := bd_some hf
    refine Wd.callS (n := 2) (As := [.int x2, .int (s2.1 0 0)]) (rest := []) (rv := some (.int r5)) hC hW (kX8_isIn c7) q762 q763 q8 q764 ⟨rfl, rfl⟩ ⟨by decide +kernel, by decide +kernel, by decide +kernel⟩ ⟨Nat.le_of_ble_eq_true rfl, Nat.le_of_ble_eq_true rfl⟩ ⟨Nat.zero_le _, Nat.zero_le _⟩ rfl hl.1 rfl (st2 := [.int r5]) rfl (Nat.le_of_ble_eq_true rfl) dX8_distance_16 (fun H locs hW => ?_)
    refine lv_if_eq (tgt := 36) hx hb dX8_distance_19 (by decide) (fun h8 => ?_) (fun h8 => ?_)
    · have hf := it_t h8 hf
      refine lv_iconst (v := (-1)) hx hb dX8_distance_36 (by decide) ?_
      obtain ⟨rfl, rfl⟩ := sp hf
      exact Wd.iret hC hW dX8_distance_37
    · have hf := it_f h8 hf
      refine lv_aload_n hx hb dX8_distance_22 rfl (lv_at hl 0 rfl) ?_
      refine gfX8_7 hC hW 0 (by decide) rfl (q := 1) rfl dX8_distance_23 ?_
      refine lv_bipush (v := 20) hx hb dX8_distance_26 (by decide) ?_
      refine lv_iload_n hx hb dX8_distance_28 rfl (lv_at hl 1 rfl) ?_
      refine lv_imul hx hb dX8_distance_29 ?_
      refine lv_iload_n hx hb dX8_distance_30 rfl (lv_at hl 2 rfl) ?_
      refine lv_iadd hx hb dX8_distance_31 ?_
      obtain ⟨h9, hf⟩ := gd_some hf
      refine Wd.iald hC hW 1 (by decide) rfl h9 dX8_distance_32 ?_
      refine lv_goto (tgt := 37) hx hb dX8_distance_33 (by decide) ?_
      obtain ⟨rfl, rfl⟩ := sp hf
      exact Wd.iret hC hW dX8_distance_37
abbrev rmX8_place : Room := { frames := 1, cells := 0, slots := 0, locals := 21 }
def fX8_place (N : Nat) (x1 : Int32) (x2 : Int32) (x3 : Int32) (σ : St) : Option (Int32 × St) := bd (fX8_isIn N x1 (σ.1 0 0) σ) (fun r1 s2 => if r1 = 0 then some ((0 : Int32), s2) else if x2 < (-500 : Int32) then some ((0 : Int32), s2) else if (500 : Int32) < x2 then some ((0 : Int32), s2) else if x3 < (-500 : Int32) then some ((0 : Int32), s2) else if x3 ≤ (500 : Int32) then gd (ib x1 20) (nx (sI s2 2 x1.toNatClampNeg x2) (fun s10 => gd (ib x1 20) (nx (sI s10 3 x1.toNatClampNeg x3) (fun s12 => some ((1 : Int32), s12))))) else some ((0 : Int32), s2))
set_option maxHeartbeats 4000000 in
set_option maxRecDepth 100000 in
theorem kX8_place {l : Launch} {D : va_G} {cA : Nat → ClassId} {ad : Nat → Nat} {N : Nat} {x1 : Int32} {x2 : Int32} {x3 : Int32} {σ : St} {r : Int32} {σ' : St} (hf : fX8_place N x1 x2 x3 σ = some (r, σ')) : MW kdM 31 l D cA ad ⟨RX8, "place", "(III)Z"⟩ cX8_place 4 (some .boolean) rmX8_place [.ref (ad 0), .int x1, .int x2, .int x3] σ (some (.int r)) σ' := by
  refine MW.of (by decide) (Nat.le_of_ble_eq_true rfl) ?_
  intro p e s m args below meth c ls hC hW hl
  have hx := hC.1
  have hb := hC.2.1
  have hown := hC.2.2.2.1
  have hts := hC.2.2.2.2.1
  have hl : lv_has ls 4 [(0, .ref (ad 0)), (1, .int x1), (2, .int x2), (3, .int x3)] := hl
  unfold fX8_place at hf
  refine lv_iload_n hx hb dX8_place_0 rfl (lv_at hl 1 rfl) ?_
  refine lv_aload_n hx hb dX8_place_1 rfl (lv_at hl 0 rfl) ?_
  refine gfX8_107 hC hW 0 (by decide) rfl rfl dX8_place_2 ?_
  obtain ⟨r1, s2, c3, hf⟩ := bd_some hf
  refine Wd.callS (n := 2) (As := [.int x1, .int (σ.1 0 0)]) (rest := []) (rv := some (.int r1)) hC hW (kX8_isIn c3) q762 q763 q8 q764 ⟨rfl, rfl⟩ ⟨by decide +kernel, by decide +kernel, by decide +kernel⟩ ⟨Nat.le_of_ble_eq_true rfl, Nat.le_of_ble_eq_true rfl⟩ ⟨Nat.zero_le _, Nat.zero_le _⟩ rfl hl.1 rfl (st2 := [.int r1]) rfl (Nat.le_of_ble_eq_true rfl) dX8_place_5 (fun H locs hW => ?_)
  refine lv_if_eq (tgt := 39) hx hb dX8_place_8 (by decide) (fun h4 => ?_) (fun h4 => ?_)
  · have hf := it_t h4 hf
    refine lv_iconst (v := 0) hx hb dX8_place_39 (by decide) ?_
    obtain ⟨rfl, rfl⟩ := sp hf
    exact Wd.zret hC hW (Or.inl rfl) dX8_place_40
  · have hf := it_f h4 hf
    refine lv_iload_n hx hb dX8_place_11 rfl (lv_at hl 2 rfl) ?_
    refine lv_sipush (v := (-500)) hx hb dX8_place_12 (by decide) ?_
    refine lv_icmp_lt (tgt := 39) hx hb dX8_place_15 (by decide) (fun h5 => ?_) (fun h5 => ?_)
    · have hf := it_t h5 hf
      refine lv_iconst (v := 0) hx hb dX8_place_39 (by decide) ?_
      obtain ⟨rfl, rfl⟩ := sp hf
      exact Wd.zret hC hW (Or.inl rfl) dX8_place_40
    · have hf := it_f h5 hf
      refine lv_iload_n hx hb dX8_place_18 rfl (lv_at hl 2 rfl) ?_
      refine lv_sipush (v := 500) hx hb dX8_place_19 (by decide) ?_
      refine lv_icmp_gt (tgt := 39) hx hb dX8_place_22 (by decide) (fun h6 => ?_) (fun h6 => ?_)
      · have hf := it_t h6 hf
        refine lv_iconst (v := 0) hx hb dX8_place_39 (by decide) ?_
        obtain ⟨rfl, rfl⟩ := sp hf
        exact Wd.zret hC hW (Or.inl rfl) dX8_place_40
      · have hf := it_f h6 hf
        refine lv_iload_n hx hb dX8_place_25 rfl (lv_at hl 3 rfl) ?_
        refine lv_sipush (v := (-500)) hx hb dX8_place_26 (by decide) ?_
        refine lv_icmp_lt (tgt := 39) hx hb dX8_place_29 (by decide) (fun h7 => ?_) (fun h7 => ?_)
        · have hf := it_t h7 hf
          refine lv_iconst (v := 0) hx hb dX8_place_39 (by decide) ?_
          obtain ⟨rfl, rfl⟩ := sp hf
          exact Wd.zret hC hW (Or.inl rfl) dX8_place_40
        · have hf := it_f h7 hf
          refine lv_iload_n hx hb dX8_place_32 rfl (lv_at hl 3 rfl) ?_
          refine lv_sipush (v := 500) hx hb dX8_place_33 (by decide) ?_
          refine lv_icmp_le (tgt := 41) hx hb dX8_place_36 (by decide) (fun h8 => ?_) (fun h8 => ?_)
          · have hf := it_t h8 hf
            refine lv_aload_n hx hb dX8_place_41 rfl (lv_at hl 0 rfl) ?_
            refine gfX8_13 hC hW 0 (by decide) rfl (q := 2) rfl dX8_place_42 ?_
            refine lv_iload_n hx hb dX8_place_45 rfl (lv_at hl 1 rfl) ?_
            refine lv_iload_n hx hb dX8_place_46 rfl (lv_at hl 2 rfl) ?_
            obtain ⟨h9, hf⟩ := gd_some hf
            refine Wd.iast hC hW 2 (by decide) rfl h9 dX8_place_47 (fun H locs hW => ?_)
            obtain ⟨s10, es10, hf⟩ := nx_ex hf
            rw [← es10] at hW
            refine lv_aload_n hx hb dX8_place_48 rfl (lv_at hl 0 rfl) ?_
            refine gfX8_16 hC hW 0 (by decide) rfl (q := 3) rfl dX8_place_49 ?_
            refine lv_iload_n hx hb dX8_place_52 rfl (lv_at hl 1 rfl) ?_
            refine lv_iload_n hx hb dX8_place_53 rfl (lv_at hl 3 rfl) ?_
            obtain ⟨h11, hf⟩ := gd_some hf
            refine Wd.iast hC hW 3 (by decide) rfl h11 dX8_place_54 (fun H locs hW => ?_)
            obtain ⟨s12, es12, hf⟩ := nx_ex hf
            rw [← es12] at hW
            refine lv_iconst (v := 1) hx hb dX8_place_55 (by decide) ?_
            obtain ⟨rfl, rfl⟩ := sp hf
            exact Wd.zret hC hW (Or.inr rfl) dX8_place_56
          · have hf := it_f h8 hf
            refine lv_iconst (v := 0) hx hb dX8_place_39 (by decide) ?_
            obtain ⟨rfl, rfl⟩ := sp hf
            exact Wd.zret hC hW (Or.inl rfl) dX8_place_40
abbrev rmX8_sizeOf : Room := { frames := 0, cells := 0, slots := 0, locals := 0 }
def fX8_sizeOf (N : Nat) (x0 : Int32) (σ : St) : Option (Int32 × St) := if 0 ≤ x0 then some (x0, σ) else some ((-x0), σ)
set_option maxHeartbeats 4000000 in
set_option maxRecDepth 100000 in
theorem kX8_sizeOf {l : Launch} {D : va_G} {cA : Nat → ClassId} {ad : Nat → Nat} {N : Nat} {x0 : Int32} {σ : St} {r : Int32} {σ' : St} (hf : fX8_sizeOf N x0 σ = some (r, σ')) : MW kdM 31 l D cA ad ⟨RX8, "sizeOf", "(I)I"⟩ cX8_sizeOf 1 (some .int) rmX8_sizeOf [.int x0] σ (some (.int r)) σ' := by
  refine MW.of (by decide) (Nat.le_of_ble_eq_true rfl) ?_
  intro p e s m args below meth c ls hC hW hl
  have hx := hC.1
  have hb := hC.2.1
  have hown := hC.2.2.2.1
  have hts := hC.2.2.2.2.1
  have hl : lv_has ls 1 [(0, .int x0)] := hl
  unfold fX8_sizeOf at hf
  refine lv_iload_n hx hb dX8_sizeOf_0 rfl (lv_at hl 0 rfl) ?_
  refine lv_if_ge (tgt := 9) hx hb dX8_sizeOf_1 (by decide) (fun h1 => ?_) (fun h1 => ?_)
  · have hf := it_t h1 hf
    refine lv_iload_n hx hb dX8_sizeOf_9 rfl (lv_at hl 0 rfl) ?_
    obtain ⟨rfl, rfl⟩ := sp hf
    exact Wd.iret hC hW dX8_sizeOf_10
  · have hf := it_f h1 hf
    refine lv_iload_n hx hb dX8_sizeOf_4 rfl (lv_at hl 0 rfl) ?_
    refine lv_ineg hx hb dX8_sizeOf_5 ?_
    refine lv_goto (tgt := 10) hx hb dX8_sizeOf_6 (by decide) ?_
    obtain ⟨rfl, rfl⟩ := sp hf
    exact Wd.iret hC hW dX8_sizeOf_10
abbrev rmX8_measure : Room := { frames := 1, cells := 0, slots := 0, locals := 23 }
def fX8_measure_111 (N : Nat) (K12 : Int32 → Int32 → St → Option (Int32 × St)) (K22 : Int32 → Int32 → Int32 → St → Option (Int32 × St)) (x1 : Int32) (x2 : Int32) (x3 : Int32) (y0 : Int32) (y1 : Int32) (y2 : Int32) (σ : St) : Option (Int32 × St) := bd (fX8_sets N y2 y1 y0 σ) (fun r1 s2 => nx (x3 + (1 : Int32)) (fun v4 => (K22 x1 x2 v4 s2)))
set_option maxHeartbeats 4000000 in
set_option maxRecDepth 100000 in
theorem wX8_measure_111 (hC : Cx RX8 cX8_measure 6 (some .boolean) D cA p s m args meth c) {N : Nat} {K12 : Int32 → Int32 → St → Option (Int32 × St)} {K22 : Int32 → Int32 → Int32 → St → Option (Int32 × St)} {x1 : Int32} {x2 : Int32} {x3 : Int32} {y0 : Int32} {y1 : Int32} {y2 : Int32} {σ : St} {r : Int32} {σ' : St} (hK12 : ∀ (x1 : Int32) (x2 : Int32) (σ : St) (H : Heap) (locs : List Loc) (ls : Array Slot), K12 x1 x2 σ = some (r, σ') → Wd kdM 31 D cA ad s σ H locs → lv_has ls 6 [(0, .ref (ad 0)), (1, .int x1), (2, .int x2)] → W p l e rmX8_measure s m args below meth c H locs 0 0 (EndW kdM 31 D cA ad below args s (some (.int r)) σ') (F0 m 12 ls [])) (hK22 : ∀ (x1 : Int32) (x2 : Int32) (x3 : Int32) (σ : St) (H : Heap) (locs : List Loc) (ls : Array Slot), K22 x1 x2 x3 σ = some (r, σ') → Wd kdM 31 D cA ad s σ H locs → lv_has ls 6 [(0, .ref (ad 0)), (1, .int x1), (2, .int x2), (3, .int x3)] → W p l e rmX8_measure s m args below meth c H locs 0 0 (EndW kdM 31 D cA ad below args s (some (.int r)) σ') (F0 m 22 ls [])) {H : Heap} {locs : List Loc} {ls : Array Slot} (hf : fX8_measure_111 N K12 K22 x1 x2 x3 y0 y1 y2 σ = some (r, σ')) (hW : Wd kdM 31 D cA ad s σ H locs) (hl : lv_has ls 6 [(0, .ref (ad 0)), (1, .int x1), (2, .int x2), (3, .int x3)]) : W p l e rmX8_measure s m args below meth c H locs 0 0 (EndW kdM 31 D cA ad below args s (some (.int r)) σ') (F0 m 111 ls [.int y0, .int y1, .int y2, .ref (ad 0)]) := by
  have hx := hC.1
  have hb := hC.2.1
  have hown := hC.2.2.2.1
  have hts := hC.2.2.2.2.1
  unfold fX8_measure_111 at hf
  obtain ⟨r1, s2, c3, hf⟩ := bd_some hf
  refine Wd.callV (n := 3) (As := [.int y2, .int y1, .int y0]) (rest := []) (rv := none) hC hW 0 (kX8_sets c3) (by decide) rfl rfl q766 q768 qs48 q8 q769 ⟨rfl, rfl⟩ ⟨by decide +kernel, by decide +kernel, by decide +kernel⟩ ⟨Nat.le_of_ble_eq_true rfl, Nat.le_of_ble_eq_true rfl⟩ ⟨Nat.zero_le _, Nat.zero_le _⟩ rfl hl.1 rfl (st2 := []) rfl (Nat.le_of_ble_eq_true rfl) dX8_measure_111 (fun H locs hW => ?_)
  obtain ⟨v4, ev4⟩ : ∃ y : Int32, y = x3 + (1 : Int32) := ⟨_, rfl⟩
  have hf := nx_at ev4 hf
  refine lv_iinc (v := v4) (lv' := [(3, .int v4), (0, .ref (ad 0)), (1, .int x1), (2, .int x2)]) hx hb dX8_measure_114 hl (k := 3) rfl (by rw [ev4]; rfl) (by decide) rfl (fun ls hl => ?_)
  refine lv_goto (tgt := 22) hx hb dX8_measure_117 (by decide) ?_
  exact hK22 _ _ _ _ _ _ _ hf hW (lv_sub hl [1, 2, 3, 0] rfl)
def fX8_measure_22 (N : Nat) (K12 : Int32 → Int32 → St → Option (Int32 × St)) : Nat → Int32 → Int32 → Int32 → St → Option (Int32 × St)
  | 0, _, _, _, _ => none
  | n + 1, x1, x2, x3, σ => if x2 ≤ x3 then nx (x2 + (1 : Int32)) (fun v2 => (K12 x1 v2 σ)) else gd (ib x2 20) (gd (ib x3 20) (bd (fX8_sizeOf N ((σ.1 2 x2.toNatClampNeg) - (σ.1 2 x3.toNatClampNeg)) σ) (fun r5 s6 => gd (ib x2 20) (gd (ib x3 20) (bd (fX8_sizeOf N ((s6.1 3 x2.toNatClampNeg) - (s6.1 3 x3.toNatClampNeg)) s6) (fun r10 s11 => if x1 = 0 then (fX8_measure_111 N K12 (fX8_measure_22 N K12 n) x1 x2 x3 ((r5 * r5) + (r10 * r10)) x3 x2 s11) else if x1 = (1 : Int32) then (fX8_measure_111 N K12 (fX8_measure_22 N K12 n) x1 x2 x3 (r5 + r10) x3 x2 s11) else if r5 ≤ r10 then (fX8_measure_111 N K12 (fX8_measure_22 N K12 n) x1 x2 x3 r10 x3 x2 s11) else (fX8_measure_111 N K12 (fX8_measure_22 N K12 n) x1 x2 x3 r5 x3 x2 s11)))))))
set_option maxHeartbeats 4000000 in
set_option maxRecDepth 100000 in
theorem wX8_measure_22 (hC : Cx RX8 cX8_measure 6 (some .boolean) D cA p s m args meth c) {N : Nat} {K12 : Int32 → Int32 → St → Option (Int32 × St)} {r : Int32} {σ' : St} (hK12 : ∀ (x1 : Int32) (x2 : Int32) (σ : St) (H : Heap) (locs : List Loc) (ls : Array Slot), K12 x1 x2 σ = some (r, σ') → Wd kdM 31 D cA ad s σ H locs → lv_has ls 6 [(0, .ref (ad 0)), (1, .int x1), (2, .int x2)] → W p l e rmX8_measure s m args below meth c H locs 0 0 (EndW kdM 31 D cA ad below args s (some (.int r)) σ') (F0 m 12 ls [])) : ∀ (n : Nat) (x1 : Int32) (x2 : Int32) (x3 : Int32) (σ : St) (H : Heap) (locs : List Loc) (ls : Array Slot), fX8_measure_22 N K12 n x1 x2 x3 σ = some (r, σ') → Wd kdM 31 D cA ad s σ H locs → lv_has ls 6 [(0, .ref (ad 0)), (1, .int x1), (2, .int x2), (3, .int x3)] → W p l e rmX8_measure s m args below meth c H locs 0 0 (EndW kdM 31 D cA ad below args s (some (.int r)) σ') (F0 m 22 ls []) := by
  have hx := hC.1
  have hb := hC.2.1
  have hown := hC.2.2.2.1
  have hts := hC.2.2.2.2.1
  intro n
  induction n with
  | zero =>
    intro x1 x2 x3 σ H locs ls hf
    rw [fX8_measure_22] at hf
    cases hf
  | succ n ih =>
    intro x1 x2 x3 σ H locs ls hf hW hl
    rw [fX8_measure_22] at hf
    refine lv_iload_n hx hb dX8_measure_22 rfl (lv_at hl 3 rfl) ?_
    refine lv_iload_n hx hb dX8_measure_23 rfl (lv_at hl 2 rfl) ?_
    refine lv_icmp_ge (tgt := 120) hx hb dX8_measure_24 (by decide) (fun h1 => ?_) (fun h1 => ?_)
    · have hf := it_t h1 hf
      obtain ⟨v2, ev2⟩ : ∃ y : Int32, y = x2 + (1 : Int32) := ⟨_, rfl⟩
      have hf := nx_at ev2 hf
      refine lv_iinc (v := v2) (lv' := [(2, .int v2), (0, .ref (ad 0)), (1, .int x1), (3, .int x3)]) hx hb dX8_measure_120 hl (k := 2) rfl (by rw [ev2]; rfl) (by decide) rfl (fun ls hl => ?_)
      refine lv_goto (tgt := 12) hx hb dX8_measure_123 (by decide) ?_
      exact hK12 _ _ _ _ _ _ hf hW (lv_sub hl [1, 2, 0] rfl)
    · have hf := it_f h1 hf
      refine lv_aload_n hx hb dX8_measure_27 rfl (lv_at hl 0 rfl) ?_
      refine gfX8_13 hC hW 0 (by decide) rfl (q := 2) rfl dX8_measure_28 ?_
      refine lv_iload_n hx hb dX8_measure_31 rfl (lv_at hl 2 rfl) ?_
      obtain ⟨h3, hf⟩ := gd_some hf
      refine Wd.iald hC hW 2 (by decide) rfl h3 dX8_measure_32 ?_
      refine lv_aload_n hx hb dX8_measure_33 rfl (lv_at hl 0 rfl) ?_
      refine gfX8_13 hC hW 0 (by decide) rfl (q := 2) rfl dX8_measure_34 ?_
      refine lv_iload_n hx hb dX8_measure_37 rfl (lv_at hl 3 rfl) ?_
      obtain ⟨h4, hf⟩ := gd_some hf
      refine Wd.iald hC hW 2 (by decide) rfl h4 dX8_measure_38 ?_
      refine lv_isub hx hb dX8_measure_39 ?_
      obtain ⟨r5, s6, c7, hf⟩ := bd_some hf
      refine Wd.callS (n := 1) (As := [.int ((σ.1 2 x2.toNatClampNeg) - (σ.1 2 x3.toNatClampNeg))]) (rest := []) (rv := some (.int r5)) hC hW (kX8_sizeOf c7) q782 q783 q8 q784 ⟨rfl, rfl⟩ ⟨by decide +kernel, by decide +kernel, by decide +kernel⟩ ⟨Nat.le_of_ble_eq_true rfl, Nat.le_of_ble_eq_true rfl⟩ ⟨Nat.zero_le _, Nat.zero_le _⟩ rfl hl.1 rfl (st2 := [.int r5]) rfl (Nat.le_of_ble_eq_true rfl) dX8_measure_40 (fun H locs hW => ?_)
      refine lv_istore (lv' := [(4, .int r5), (0, .ref (ad 0)), (1, .int x1), (2, .int x2), (3, .int x3)]) hx hb dX8_measure_43 hl (by decide) rfl (fun ls hl => ?_)
      refine lv_aload_n hx hb dX8_measure_45 rfl (lv_at hl 1 rfl) ?_
      refine gfX8_16 hC hW 0 (by decide) rfl (q := 3) rfl dX8_measure_46 ?_
      refine lv_iload_n hx hb dX8_measure_49 rfl (lv_at hl 3 rfl) ?_
      obtain ⟨h8, hf⟩ := gd_some hf
      refine Wd.iald hC hW 3 (by decide) rfl h8 dX8_measure_50 ?_
      refine lv_aload_n hx hb dX8_measure_51 rfl (lv_at hl 1 rfl) ?_
      refine gfX8_16 hC hW 0 (by decide) rfl (q := 3) rfl dX8_measure_52 ?_
      refine lv_iload_n hx hb dX8_measure_55 rfl (lv_at hl 4 rfl) ?_
      obtain ⟨h9, hf⟩ := gd_some hf
      refine Wd.iald hC hW 3 (by decide) rfl h9 dX8_measure_56 ?_
      refine lv_isub hx hb dX8_measure_57 ?_
      obtain ⟨r10, s11, c12, hf⟩ := bd_some hf
      refine Wd.callS (n := 1) (As := [.int ((s6.1 3 x2.toNatClampNeg) - (s6.1 3 x3.toNatClampNeg))]) (rest := []) (rv := some (.int r10)) hC hW (kX8_sizeOf c12) q782 q783 q8 q784 ⟨rfl, rfl⟩ ⟨by decide +kernel, by decide +kernel, by decide +kernel⟩ ⟨Nat.le_of_ble_eq_true rfl, Nat.le_of_ble_eq_true rfl⟩ ⟨Nat.zero_le _, Nat.zero_le _⟩ rfl hl.1 rfl (st2 := [.int r10]) rfl (Nat.le_of_ble_eq_true rfl) dX8_measure_58 (fun H locs hW => ?_)
      refine lv_istore (lv' := [(5, .int r10), (4, .int r5), (0, .ref (ad 0)), (1, .int x1), (2, .int x2), (3, .int x3)]) hx hb dX8_measure_61 hl (by decide) rfl (fun ls hl => ?_)
      refine lv_aload_n hx hb dX8_measure_63 rfl (lv_at hl 2 rfl) ?_
      refine lv_iload_n hx hb dX8_measure_64 rfl (lv_at hl 4 rfl) ?_
      refine lv_iload_n hx hb dX8_measure_65 rfl (lv_at hl 5 rfl) ?_
      refine lv_iload_n hx hb dX8_measure_66 rfl (lv_at hl 3 rfl) ?_
      refine lv_if_ne (tgt := 84) hx hb dX8_measure_67 (by decide) (fun h13 => ?_) (fun h13 => ?_)
      · have hf := it_f h13 hf
        refine lv_iload_n hx hb dX8_measure_84 rfl (lv_at hl 3 rfl) ?_
        refine lv_iconst (v := 1) hx hb dX8_measure_85 (by decide) ?_
        refine lv_icmp_ne (tgt := 97) hx hb dX8_measure_86 (by decide) (fun h14 => ?_) (fun h14 => ?_)
        · have hf := it_f h14 hf
          refine lv_iload hx hb dX8_measure_97 (lv_at hl 1 rfl) ?_
          refine lv_iload hx hb dX8_measure_99 (lv_at hl 0 rfl) ?_
          refine lv_icmp_le (tgt := 109) hx hb dX8_measure_101 (by decide) (fun h15 => ?_) (fun h15 => ?_)
          · have hf := it_t h15 hf
            refine lv_iload hx hb dX8_measure_109 (lv_at hl 0 rfl) ?_
            exact wX8_measure_111 hC hK12 ih hf hW (lv_sub hl [2, 3, 4, 5] rfl)
          · have hf := it_f h15 hf
            refine lv_iload hx hb dX8_measure_104 (lv_at hl 1 rfl) ?_
            refine lv_goto (tgt := 111) hx hb dX8_measure_106 (by decide) ?_
            exact wX8_measure_111 hC hK12 ih hf hW (lv_sub hl [2, 3, 4, 5] rfl)
        · have hf := it_t h14 hf
          refine lv_iload hx hb dX8_measure_89 (lv_at hl 1 rfl) ?_
          refine lv_iload hx hb dX8_measure_91 (lv_at hl 0 rfl) ?_
          refine lv_iadd hx hb dX8_measure_93 ?_
          refine lv_goto (tgt := 111) hx hb dX8_measure_94 (by decide) ?_
          exact wX8_measure_111 hC hK12 ih hf hW (lv_sub hl [2, 3, 4, 5] rfl)
      · have hf := it_t h13 hf
        refine lv_iload hx hb dX8_measure_70 (lv_at hl 1 rfl) ?_
        refine lv_iload hx hb dX8_measure_72 (lv_at hl 1 rfl) ?_
        refine lv_imul hx hb dX8_measure_74 ?_
        refine lv_iload hx hb dX8_measure_75 (lv_at hl 0 rfl) ?_
        refine lv_iload hx hb dX8_measure_77 (lv_at hl 0 rfl) ?_
        refine lv_imul hx hb dX8_measure_79 ?_
        refine lv_iadd hx hb dX8_measure_80 ?_
        refine lv_goto (tgt := 111) hx hb dX8_measure_81 (by decide) ?_
        exact wX8_measure_111 hC hK12 ih hf hW (lv_sub hl [2, 3, 4, 5] rfl)
def fX8_measure_12 (N : Nat) : Nat → Int32 → Int32 → St → Option (Int32 × St)
  | 0, _, _, _ => none
  | n + 1, x1, x2, σ => if (σ.1 0 0) ≤ x2 then some ((1 : Int32), σ) else (fX8_measure_22 N (fX8_measure_12 N n) N x1 x2 (0 : Int32) σ)
set_option maxHeartbeats 4000000 in
set_option maxRecDepth 100000 in
theorem wX8_measure_12 (hC : Cx RX8 cX8_measure 6 (some .boolean) D cA p s m args meth c) {N : Nat} {r : Int32} {σ' : St} : ∀ (n : Nat) (x1 : Int32) (x2 : Int32) (σ : St) (H : Heap) (locs : List Loc) (ls : Array Slot), fX8_measure_12 N n x1 x2 σ = some (r, σ') → Wd kdM 31 D cA ad s σ H locs → lv_has ls 6 [(0, .ref (ad 0)), (1, .int x1), (2, .int x2)] → W p l e rmX8_measure s m args below meth c H locs 0 0 (EndW kdM 31 D cA ad below args s (some (.int r)) σ') (F0 m 12 ls []) := by
  have hx := hC.1
  have hb := hC.2.1
  have hown := hC.2.2.2.1
  have hts := hC.2.2.2.2.1
  intro n
  induction n with
  | zero =>
    intro x1 x2 σ H locs ls hf
    rw [fX8_measure_12] at hf
    cases hf
  | succ n ih =>
    intro x1 x2 σ H locs ls hf hW hl
    rw [fX8_measure_12] at hf
    refine lv_iload_n hx hb dX8_measure_12 rfl (lv_at hl 2 rfl) ?_
    refine lv_aload_n hx hb dX8_measure_13 rfl (lv_at hl 0 rfl) ?_
    refine gfX8_107 hC hW 0 (by decide) rfl rfl dX8_measure_14 ?_
    refine lv_icmp_ge (tgt := 126) hx hb dX8_measure_17 (by decide) (fun h1 => ?_) (fun h1 => ?_)
    · have hf := it_t h1 hf
      refine lv_iconst (v := 1) hx hb dX8_measure_126 (by decide) ?_
      obtain ⟨rfl, rfl⟩ := sp hf
      exact Wd.zret hC hW (Or.inr rfl) dX8_measure_127
    · have hf := it_f h1 hf
      refine lv_iconst (v := 0) hx hb dX8_measure_20 (by decide) ?_
      refine lv_istore_n (lv' := [(3, .int (0 : Int32)), (0, .ref (ad 0)), (1, .int x1), (2, .int x2)]) hx hb dX8_measure_21 rfl hl (by decide) rfl (fun ls hl => ?_)
      exact wX8_measure_22 hC ih N _ _ _ _ _ _ _ hf hW (lv_sub hl [1, 2, 3, 0] rfl)
def fX8_measure (N : Nat) (x1 : Int32) (σ : St) : Option (Int32 × St) := bd (fX8_isIn N x1 (3 : Int32) σ) (fun r1 s2 => if r1 = 0 then some ((0 : Int32), s2) else (fX8_measure_12 N N x1 (0 : Int32) s2))
set_option maxHeartbeats 4000000 in
set_option maxRecDepth 100000 in
theorem kX8_measure {l : Launch} {D : va_G} {cA : Nat → ClassId} {ad : Nat → Nat} {N : Nat} {x1 : Int32} {σ : St} {r : Int32} {σ' : St} (hf : fX8_measure N x1 σ = some (r, σ')) : MW kdM 31 l D cA ad ⟨RX8, "measure", "(I)Z"⟩ cX8_measure 6 (some .boolean) rmX8_measure [.ref (ad 0), .int x1] σ (some (.int r)) σ' := by
  refine MW.of (by decide) (Nat.le_of_ble_eq_true rfl) ?_
  intro p e s m args below meth c ls hC hW hl
  have hx := hC.1
  have hb := hC.2.1
  have hown := hC.2.2.2.1
  have hts := hC.2.2.2.2.1
  have hl : lv_has ls 6 [(0, .ref (ad 0)), (1, .int x1)] := hl
  unfold fX8_measure at hf
  refine lv_iload_n hx hb dX8_measure_0 rfl (lv_at hl 1 rfl) ?_
  refine lv_iconst (v := 3) hx hb dX8_measure_1 (by decide) ?_
  obtain ⟨r1, s2, c3, hf⟩ := bd_some hf
  refine Wd.callS (n := 2) (As := [.int x1, .int (3 : Int32)]) (rest := []) (rv := some (.int r1)) hC hW (kX8_isIn c3) q762 q763 q8 q764 ⟨rfl, rfl⟩ ⟨by decide +kernel, by decide +kernel, by decide +kernel⟩ ⟨Nat.le_of_ble_eq_true rfl, Nat.le_of_ble_eq_true rfl⟩ ⟨Nat.zero_le _, Nat.zero_le _⟩ rfl hl.1 rfl (st2 := [.int r1]) rfl (Nat.le_of_ble_eq_true rfl) dX8_measure_2 (fun H locs hW => ?_)
  refine lv_if_ne (tgt := 10) hx hb dX8_measure_5 (by decide) (fun h4 => ?_) (fun h4 => ?_)
  · have hf := it_f h4 hf
    refine lv_iconst (v := 0) hx hb dX8_measure_10 (by decide) ?_
    refine lv_istore_n (lv' := [(2, .int (0 : Int32)), (0, .ref (ad 0)), (1, .int x1)]) hx hb dX8_measure_11 rfl hl (by decide) rfl (fun ls hl => ?_)
    exact wX8_measure_12 hC N _ _ _ _ _ _ hf hW (lv_sub hl [1, 2, 0] rfl)
  · have hf := it_t h4 hf
    refine lv_iconst (v := 0) hx hb dX8_measure_8 (by decide) ?_
    obtain ⟨rfl, rfl⟩ := sp hf
    exact Wd.zret hC hW (Or.inl rfl) dX8_measure_9
end
