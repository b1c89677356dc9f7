section
variable {D : va_G} {cA : Nat → ClassId} {ad : Nat → Nat} {p : Program} {l : Launch} {e : Env} {s : State} {m : MethodId} {args : Array Value} {below : List Frame} {meth : Method} {c : Code}
abbrev rmX7_makeTree : Room := { frames := 6, cells := 0, slots := 0, locals := 152 }
def fX7_makeTree_53 (N : Nat) (x1 : Int32) (x3 : Int32) (σ : St) : Option (Int32 × St) := gd (ib x1 4) (bd (fX1_deliver N x1.toNatClampNeg x3 σ) (fun r2 s3 => gd (ib x1 4) (some ((s3.1 (28 + 6 * x1.toNatClampNeg) 0), s3))))
set_option maxHeartbeats 4000000 in
set_option maxRecDepth 100000 in
theorem wX7_makeTree_53 (hC : Cx RX7 cX7_makeTree 4 (some .int) D cA p s m args meth c) {N : Nat} {x1 : Int32} {x3 : Int32} {σ : St} {r : Int32} {σ' : St} {H : Heap} {locs : List Loc} {ls : Array Slot} (hf : fX7_makeTree_53 N x1 x3 σ = some (r, σ')) (hW : Wd kdX 140 D cA ad s σ H locs) (hl : lv_has ls 4 [(0, .ref (ad 0)), (1, .int x1), (3, .int x3)]) : W p l e rmX7_makeTree s m args below meth c H locs 0 0 (EndW kdX 140 D cA ad below args s (some (.int r)) σ') (F0 m 53 ls []) := by
  have hx := hC.1
  have hb := hC.2.1
  have hown := hC.2.2.2.1
  have hts := hC.2.2.2.2.1
  unfold fX7_makeTree_53 at hf
  refine lv_aload_n hx hb dX7_makeTree_53 rfl (lv_at hl 0 rfl) ?_
  refine gfX7_36 hC hW 0 (by decide) rfl (q := 11) rfl dX7_makeTree_54 ?_
  refine lv_aload_n hx hb dX7_makeTree_57 rfl (lv_at hl 0 rfl) ?_
  refine gfX7_42 hC hW 0 (by decide) rfl (q := 21) rfl dX7_makeTree_58 ?_
  refine lv_iload_n hx hb dX7_makeTree_61 rfl (lv_at hl 1 rfl) ?_
  obtain ⟨h1, hf⟩ := gd_some hf
  refine Wd.aald hC hW 21 ⟨by decide, by decide⟩ (by decide) rfl h1 dX7_makeTree_62 ?_
  refine lv_iload_n hx hb dX7_makeTree_63 rfl (lv_at hl 2 rfl) ?_
  obtain ⟨r2, s3, c4, hf⟩ := bd_some hf
  refine Wd.callVN (n := 2) (As := [.ref (ad (52 + 2 * x1.toNatClampNeg)), .int x3]) (rest := []) (rv := none) hC hW 11 (kX1_deliver (ib_lt h1) c4) (by decide) rfl rfl q485 q487 qs28 q5 q488 ⟨rfl, rfl⟩ ⟨by decide +kernel, by decide +kernel, by decide +kernel⟩ ⟨Nat.le_of_ble_eq_true rfl, Nat.le_of_ble_eq_true rfl⟩ ⟨Nat.zero_le _, Nat.zero_le _⟩ rfl hl.1 rfl (st2 := []) rfl (Nat.le_of_ble_eq_true rfl) dX7_makeTree_64 (fun H locs hW => ?_)
  refine lv_aload_n hx hb dX7_makeTree_67 rfl (lv_at hl 0 rfl) ?_
  refine gfX7_42 hC hW 0 (by decide) rfl (q := 21) rfl dX7_makeTree_68 ?_
  refine lv_iload_n hx hb dX7_makeTree_71 rfl (lv_at hl 1 rfl) ?_
  obtain ⟨h5, hf⟩ := gd_some hf
  refine Wd.aald hC hW 21 ⟨by decide, by decide⟩ (by decide) rfl h5 dX7_makeTree_72 ?_
  refine gfX7_155 hC hW (52 + 2 * x1.toNatClampNeg) (Tr.b (ib_lt h5)) (Tr.o (ib_lt h5)) (q := (28 + 6 * x1.toNatClampNeg)) rfl dX7_makeTree_73 ?_
  refine gfX7_159 hC hW (28 + 6 * x1.toNatClampNeg) (St.b0 (Tr.s (ib_lt h5))) (St.o (Tr.s (ib_lt h5))) rfl dX7_makeTree_76 ?_
  obtain ⟨rfl, rfl⟩ := sp hf
  exact Wd.iret hC hW dX7_makeTree_79
def fX7_makeTree (N : Nat) (x1 : Int32) (x2 : Int32) (x3 : Int32) (σ : St) : Option (Int32 × St) := if x1 < 0 then some ((-1 : Int32), σ) else if (4 : Int32) ≤ x1 then some ((-1 : Int32), σ) else if x2 < 0 then some ((-1 : Int32), σ) else if x2 ≤ (4 : Int32) then bd (fX1_begin N x2 σ) (fun r5 s6 => if x3 = 0 then bd (fX1_joinGreedily N s6) (fun r9 s10 => (fX7_makeTree_53 N x1 x3 s10)) else bd (fX1_joinAlongChains N s6) (fun r12 s13 => (fX7_makeTree_53 N x1 x3 s13))) else some ((-1 : Int32), σ)
set_option maxHeartbeats 4000000 in
set_option maxRecDepth 100000 in
theorem kX7_makeTree {l : Launch} {D : va_G} {cA : Nat → ClassId} {ad : Nat → Nat} {N : Nat} {x1 : Int32} {x2 : Int32} {x3 : Int32} {σ : St} {r : Int32} {σ' : St} (hf : fX7_makeTree N x1 x2 x3 σ = some (r, σ')) : MW kdX 140 l D cA ad ⟨RX7, "makeTree", "(IIZ)I"⟩ cX7_makeTree 4 (some .int) rmX7_makeTree [.ref (ad 0), .int x1, .int x2, .int x3] σ (some (.int r)) σ' := by
  refine MW.of (by decide) (Nat.le_of_ble_eq_true rfl) ?_
  intro p e s m args below meth c ls hC hW hl
  have hx := hC.1
  have hb := hC.2.1
  have hown := hC.2.2.2.1
  have hts := hC.2.2.2.2.1
  have hl : lv_has ls 4 [(0, .ref (ad 0)), (1, .int x1), (2, .int x2), (3, .int x3)] := hl
  unfold fX7_makeTree at hf
  refine lv_iload_n hx hb dX7_makeTree_0 rfl (lv_at hl 1 rfl) ?_
  refine lv_if_lt (tgt := 18) hx hb dX7_makeTree_1 (by decide) (fun h1 => ?_) (fun h1 => ?_)
  · have hf := it_t h1 hf
    refine lv_iconst (v := (-1)) hx hb dX7_makeTree_18 (by decide) ?_
    obtain ⟨rfl, rfl⟩ := sp hf
    exact Wd.iret hC hW dX7_makeTree_19
  · have hf := it_f h1 hf
    refine lv_iload_n hx hb dX7_makeTree_4 rfl (lv_at hl 1 rfl) ?_
    refine lv_iconst (v := 4) hx hb dX7_makeTree_5 (by decide) ?_
    refine lv_icmp_ge (tgt := 18) hx hb dX7_makeTree_6 (by decide) (fun h2 => ?_) (fun h2 => ?_)
    · have hf := it_t h2 hf
      refine lv_iconst (v := (-1)) hx hb dX7_makeTree_18 (by decide) ?_
      obtain ⟨rfl, rfl⟩ := sp hf
      exact Wd.iret hC hW dX7_makeTree_19
    · have hf := it_f h2 hf
      refine lv_iload_n hx hb dX7_makeTree_9 rfl (lv_at hl 2 rfl) ?_
      refine lv_if_lt (tgt := 18) hx hb dX7_makeTree_10 (by decide) (fun h3 => ?_) (fun h3 => ?_)
      · have hf := it_t h3 hf
        refine lv_iconst (v := (-1)) hx hb dX7_makeTree_18 (by decide) ?_
        obtain ⟨rfl, rfl⟩ := sp hf
        exact Wd.iret hC hW dX7_makeTree_19
      · have hf := it_f h3 hf
        refine lv_iload_n hx hb dX7_makeTree_13 rfl (lv_at hl 2 rfl) ?_
        refine lv_iconst (v := 4) hx hb dX7_makeTree_14 (by decide) ?_
        refine lv_icmp_le (tgt := 20) hx hb dX7_makeTree_15 (by decide) (fun h4 => ?_) (fun h4 => ?_)
        · have hf := it_t h4 hf
          refine lv_aload_n hx hb dX7_makeTree_20 rfl (lv_at hl 0 rfl) ?_
          refine gfX7_36 hC hW 0 (by decide) rfl (q := 11) rfl dX7_makeTree_21 ?_
          refine lv_aload_n hx hb dX7_makeTree_24 rfl (lv_at hl 0 rfl) ?_
          refine gfX7_12 hC hW 0 (by decide) rfl (q := 1) rfl dX7_makeTree_25 ?_
          refine lv_iload_n hx hb dX7_makeTree_28 rfl (lv_at hl 2 rfl) ?_
          obtain ⟨r5, s6, c7, hf⟩ := bd_some hf
          refine Wd.callVN (n := 2) (As := [.ref (ad 1), .int x2]) (rest := []) (rv := none) hC hW 11 (kX1_begin c7) (by decide) rfl rfl q421 q423 qs16 q5 q424 ⟨rfl, rfl⟩ ⟨by decide +kernel, by decide +kernel, by decide +kernel⟩ ⟨Nat.le_of_ble_eq_true rfl, Nat.le_of_ble_eq_true rfl⟩ ⟨Nat.zero_le _, Nat.zero_le _⟩ rfl hl.1 rfl (st2 := []) rfl (Nat.le_of_ble_eq_true rfl) dX7_makeTree_29 (fun H locs hW => ?_)
          refine lv_iload_n hx hb dX7_makeTree_32 rfl (lv_at hl 3 rfl) ?_
          refine lv_if_eq (tgt := 46) hx hb dX7_makeTree_33 (by decide) (fun h8 => ?_) (fun h8 => ?_)
          · have hf := it_t h8 hf
            refine lv_aload_n hx hb dX7_makeTree_46 rfl (lv_at hl 0 rfl) ?_
            refine gfX7_36 hC hW 0 (by decide) rfl (q := 11) rfl dX7_makeTree_47 ?_
            obtain ⟨r9, s10, c11, hf⟩ := bd_some hf
            refine Wd.callVN (n := 0) (As := []) (rest := []) (rv := none) hC hW 11 (kX1_joinGreedily c11) (by decide) rfl rfl q477 q479 qs26 q5 q480 ⟨rfl, rfl⟩ ⟨by decide +kernel, by decide +kernel, by decide +kernel⟩ ⟨Nat.le_of_ble_eq_true rfl, Nat.le_of_ble_eq_true rfl⟩ ⟨Nat.zero_le _, Nat.zero_le _⟩ rfl hl.1 rfl (st2 := []) rfl (Nat.le_of_ble_eq_true rfl) dX7_makeTree_50 (fun H locs hW => ?_)
            exact wX7_makeTree_53 hC hf hW (lv_sub hl [0, 1, 3] rfl)
          · have hf := it_f h8 hf
            refine lv_aload_n hx hb dX7_makeTree_36 rfl (lv_at hl 0 rfl) ?_
            refine gfX7_36 hC hW 0 (by decide) rfl (q := 11) rfl dX7_makeTree_37 ?_
            obtain ⟨r12, s13, c14, hf⟩ := bd_some hf
            refine Wd.callVN (n := 0) (As := []) (rest := []) (rv := none) hC hW 11 (kX1_joinAlongChains c14) (by decide) rfl rfl q435 q437 qs18 q5 q438 ⟨rfl, rfl⟩ ⟨by decide +kernel, by decide +kernel, by decide +kernel⟩ ⟨Nat.le_of_ble_eq_true rfl, Nat.le_of_ble_eq_true rfl⟩ ⟨Nat.zero_le _, Nat.zero_le _⟩ rfl hl.1 rfl (st2 := []) rfl (Nat.le_of_ble_eq_true rfl) dX7_makeTree_40 (fun H locs hW => ?_)
            refine lv_goto (tgt := 53) hx hb dX7_makeTree_43 (by decide) ?_
            exact wX7_makeTree_53 hC hf hW (lv_sub hl [0, 1, 3] rfl)
        · have hf := it_f h4 hf
          refine lv_iconst (v := (-1)) hx hb dX7_makeTree_18 (by decide) ?_
          obtain ⟨rfl, rfl⟩ := sp hf
          exact Wd.iret hC hW dX7_makeTree_19
abbrev rmX7_greedy : Room := { frames := 7, cells := 0, slots := 0, locals := 175 }
def fX7_greedy (N : Nat) (x1 : Int32) (x2 : Int32) (σ : St) : Option (Int32 × St) := bd (fX7_makeTree N x1 x2 (0 : Int32) σ) (fun r1 s2 => some (r1, s2))
set_option maxHeartbeats 4000000 in
set_option maxRecDepth 100000 in
theorem kX7_greedy {l : Launch} {D : va_G} {cA : Nat → ClassId} {ad : Nat → Nat} {N : Nat} {x1 : Int32} {x2 : Int32} {σ : St} {r : Int32} {σ' : St} (hf : fX7_greedy N x1 x2 σ = some (r, σ')) : MW kdX 140 l D cA ad ⟨RX7, "greedy", "(II)I"⟩ cX7_greedy 3 (some .int) rmX7_greedy [.ref (ad 0), .int x1, .int x2] σ (some (.int r)) σ' := by
  refine MW.of (by decide) (Nat.le_of_ble_eq_true rfl) ?_
  intro p e s m args below meth c ls hC hW hl
  have hx := hC.1
  have hb := hC.2.1
  have hown := hC.2.2.2.1
  have hts := hC.2.2.2.2.1
  have hl : lv_has ls 3 [(0, .ref (ad 0)), (1, .int x1), (2, .int x2)] := hl
  unfold fX7_greedy at hf
  refine lv_aload_n hx hb dX7_greedy_0 rfl (lv_at hl 0 rfl) ?_
  refine lv_iload_n hx hb dX7_greedy_1 rfl (lv_at hl 1 rfl) ?_
  refine lv_iload_n hx hb dX7_greedy_2 rfl (lv_at hl 2 rfl) ?_
  refine lv_iconst (v := 0) hx hb dX7_greedy_3 (by decide) ?_
  obtain ⟨r1, s2, c3, hf⟩ := bd_some hf
  refine Wd.callV (n := 3) (As := [.int x1, .int x2, .int (0 : Int32)]) (rest := []) (rv := some (.int r1)) hC hW 0 (kX7_makeTree c3) (by decide) rfl rfl q417 q419 qs15 q1 q420 ⟨rfl, rfl⟩ ⟨by decide +kernel, by decide +kernel, by decide +kernel⟩ ⟨Nat.le_of_ble_eq_true rfl, Nat.le_of_ble_eq_true rfl⟩ ⟨Nat.zero_le _, Nat.zero_le _⟩ rfl hl.1 rfl (st2 := [.int r1]) rfl (Nat.le_of_ble_eq_true rfl) dX7_greedy_4 (fun H locs hW => ?_)
  obtain ⟨rfl, rfl⟩ := sp hf
  exact Wd.iret hC hW dX7_greedy_7
abbrev rmX7_chain : Room := { frames := 7, cells := 0, slots := 0, locals := 175 }
def fX7_chain (N : Nat) (x1 : Int32) (x2 : Int32) (σ : St) : Option (Int32 × St) := bd (fX7_makeTree N x1 x2 (1 : Int32) σ) (fun r1 s2 => some (r1, s2))
set_option maxHeartbeats 4000000 in
set_option maxRecDepth 100000 in
theorem kX7_chain {l : Launch} {D : va_G} {cA : Nat → ClassId} {ad : Nat → Nat} {N : Nat} {x1 : Int32} {x2 : Int32} {σ : St} {r : Int32} {σ' : St} (hf : fX7_chain N x1 x2 σ = some (r, σ')) : MW kdX 140 l D cA ad ⟨RX7, "chain", "(II)I"⟩ cX7_chain 3 (some .int) rmX7_chain [.ref (ad 0), .int x1, .int x2] σ (some (.int r)) σ' := by
  refine MW.of (by decide) (Nat.le_of_ble_eq_true rfl) ?_
  intro p e s m args below meth c ls hC hW hl
  have hx := hC.1
  have hb := hC.2.1
  have hown := hC.2.2.2.1
  have hts := hC.2.2.2.2.1
  have hl : lv_has ls 3 [(0, .ref (ad 0)), (1, .int x1), (2, .int x2)] := hl
  unfold fX7_chain at hf
  refine lv_aload_n hx hb dX7_chain_0 rfl (lv_at hl 0 rfl) ?_
  refine lv_iload_n hx hb dX7_chain_1 rfl (lv_at hl 1 rfl) ?_
  refine lv_iload_n hx hb dX7_chain_2 rfl (lv_at hl 2 rfl) ?_
  refine lv_iconst (v := 1) hx hb dX7_chain_3 (by decide) ?_
  obtain ⟨r1, s2, c3, hf⟩ := bd_some hf
  refine Wd.callV (n := 3) (As := [.int x1, .int x2, .int (1 : Int32)]) (rest := []) (rv := some (.int r1)) hC hW 0 (kX7_makeTree c3) (by decide) rfl rfl q417 q419 qs15 q1 q420 ⟨rfl, rfl⟩ ⟨by decide +kernel, by decide +kernel, by decide +kernel⟩ ⟨Nat.le_of_ble_eq_true rfl, Nat.le_of_ble_eq_true rfl⟩ ⟨Nat.zero_le _, Nat.zero_le _⟩ rfl hl.1 rfl (st2 := [.int r1]) rfl (Nat.le_of_ble_eq_true rfl) dX7_chain_4 (fun H locs hW => ?_)
  obtain ⟨rfl, rfl⟩ := sp hf
  exact Wd.iret hC hW dX7_chain_7
abbrev rmX7_treeIn : Room := { frames := 0, cells := 0, slots := 0, locals := 0 }
def fX7_treeIn (N : Nat) (x1 : Int32) (σ : St) : Option (Option Nat × St) := if x1 < 0 then some (none, σ) else if (4 : Int32) ≤ x1 then some (none, σ) else gd (ib x1 4) (if (σ.1 (52 + 2 * x1.toNatClampNeg) 0) = 0 then some (none, σ) else gd (ib x1 4) (some (some (x1.toNatClampNeg), σ)))
set_option maxHeartbeats 4000000 in
set_option maxRecDepth 100000 in
theorem kX7_treeIn {l : Launch} {D : va_G} {cA : Nat → ClassId} {ad : Nat → Nat} {N : Nat} {x1 : Int32} {σ : St} {r : Option Nat} {σ' : St} (hf : fX7_treeIn N x1 σ = some (r, σ')) : MW kdX 140 l D cA ad ⟨RX7, "treeIn", "(I)LDendroDesk$Tree;"⟩ cX7_treeIn 2 (some (.object "DendroDesk$Tree")) rmX7_treeIn [.ref (ad 0), .int x1] σ (some (tv ad r)) σ' := by
  refine MW.of (by decide) (Nat.le_of_ble_eq_true rfl) ?_
  intro p e s m args below meth c ls hC hW hl
  have hx := hC.1
  have hb := hC.2.1
  have hown := hC.2.2.2.1
  have hts := hC.2.2.2.2.1
  have hl : lv_has ls 2 [(0, .ref (ad 0)), (1, .int x1)] := hl
  unfold fX7_treeIn at hf
  refine lv_iload_n hx hb dX7_treeIn_0 rfl (lv_at hl 1 rfl) ?_
  refine lv_if_lt (tgt := 21) hx hb dX7_treeIn_1 (by decide) (fun h1 => ?_) (fun h1 => ?_)
  · have hf := it_t h1 hf
    refine lv_null hx hb dX7_treeIn_21 ?_
    obtain ⟨rfl, rfl⟩ := sp hf
    exact Wd.aret hC hW (Or.inl rfl) dX7_treeIn_22
  · have hf := it_f h1 hf
    refine lv_iload_n hx hb dX7_treeIn_4 rfl (lv_at hl 1 rfl) ?_
    refine lv_iconst (v := 4) hx hb dX7_treeIn_5 (by decide) ?_
    refine lv_icmp_ge (tgt := 21) hx hb dX7_treeIn_6 (by decide) (fun h2 => ?_) (fun h2 => ?_)
    · have hf := it_t h2 hf
      refine lv_null hx hb dX7_treeIn_21 ?_
      obtain ⟨rfl, rfl⟩ := sp hf
      exact Wd.aret hC hW (Or.inl rfl) dX7_treeIn_22
    · have hf := it_f h2 hf
      refine lv_aload_n hx hb dX7_treeIn_9 rfl (lv_at hl 0 rfl) ?_
      refine gfX7_42 hC hW 0 (by decide) rfl (q := 21) rfl dX7_treeIn_10 ?_
      refine lv_iload_n hx hb dX7_treeIn_13 rfl (lv_at hl 1 rfl) ?_
      obtain ⟨h3, hf⟩ := gd_some hf
      refine Wd.aald hC hW 21 ⟨by decide, by decide⟩ (by decide) rfl h3 dX7_treeIn_14 ?_
      refine gfX7_235 hC hW (52 + 2 * x1.toNatClampNeg) (Tr.b (ib_lt h3)) (Tr.o (ib_lt h3)) rfl dX7_treeIn_15 ?_
      refine lv_if_ne (tgt := 23) hx hb dX7_treeIn_18 (by decide) (fun h4 => ?_) (fun h4 => ?_)
      · have hf := it_f h4 hf
        refine lv_aload_n hx hb dX7_treeIn_23 rfl (lv_at hl 0 rfl) ?_
        refine gfX7_42 hC hW 0 (by decide) rfl (q := 21) rfl dX7_treeIn_24 ?_
        refine lv_iload_n hx hb dX7_treeIn_27 rfl (lv_at hl 1 rfl) ?_
        obtain ⟨h5, hf⟩ := gd_some hf
        refine Wd.aald hC hW 21 ⟨by decide, by decide⟩ (by decide) rfl h5 dX7_treeIn_28 ?_
        obtain ⟨rfl, rfl⟩ := sp hf
        exact Wd.aret (v := .ref (ad (52 + 2 * x1.toNatClampNeg))) hC hW (Or.inr ⟨_, rfl⟩) dX7_treeIn_29
      · have hf := it_t h4 hf
        refine lv_null hx hb dX7_treeIn_21 ?_
        obtain ⟨rfl, rfl⟩ := sp hf
        exact Wd.aret hC hW (Or.inl rfl) dX7_treeIn_22
theorem treeIn_lt {N : Nat} {x1 : Int32} {σ σ' : St} {q : Nat} (h : fX7_treeIn N x1 σ = some (some q, σ')) : q < 4 := by
  unfold fX7_treeIn at h
  split at h
  · cases h
  · split at h
    · cases h
    · obtain ⟨h1, h⟩ := gd_some h
      split at h
      · cases h
      · obtain ⟨h2, h⟩ := gd_some h
        cases h
        exact ib_lt h1
abbrev rmX7_tree : Room := { frames := 1, cells := 0, slots := 0, locals := 21 }
def fX7_tree (N : Nat) (x1 : Int32) (x2 : Int32) (σ : St) : Option (Int32 × St) := bd (fX7_treeIn N x1 σ) (fun r1 s2 => oc r1 (some ((-1 : Int32), s2)) (fun q2 => nx x2 (fun sw => if sw = (0 : Int32) then some ((s2.1 (28 + 6 * q2) 0), s2) else if sw = (1 : Int32) then some ((s2.1 (52 + 2 * q2) 4), s2) else if sw = (2 : Int32) then some ((s2.1 (52 + 2 * q2) 2), s2) else if sw = (3 : Int32) then some ((s2.1 (52 + 2 * q2) 3), s2) else if sw = (4 : Int32) then if (s2.1 (52 + 2 * q2) 1) = 0 then some ((0 : Int32), s2) else some ((1 : Int32), s2) else some ((-1 : Int32), s2))))
set_option maxHeartbeats 4000000 in
set_option maxRecDepth 100000 in
theorem kX7_tree {l : Launch} {D : va_G} {cA : Nat → ClassId} {ad : Nat → Nat} {N : Nat} {x1 : Int32} {x2 : Int32} {σ : St} {r : Int32} {σ' : St} (hf : fX7_tree N x1 x2 σ = some (r, σ')) : MW kdX 140 l D cA ad ⟨RX7, "tree", "(II)I"⟩ cX7_tree 4 (some .int) rmX7_tree [.ref (ad 0), .int x1, .int x2] σ (some (.int r)) σ' := by
  refine MW.of (by decide) (Nat.le_of_ble_eq_true rfl) ?_
  intro p e s m args below meth c ls hC hW hl
  have hx := hC.1
  have hb := hC.2.1
  have hown := hC.2.2.2.1
  have hts := hC.2.2.2.2.1
  have hl : lv_has ls 4 [(0, .ref (ad 0)), (1, .int x1), (2, .int x2)] := hl
  unfold fX7_tree at hf
  refine lv_aload_n hx hb dX7_tree_0 rfl (lv_at hl 0 rfl) ?_
  refine lv_iload_n hx hb dX7_tree_1 rfl (lv_at hl 1 rfl) ?_
  obtain ⟨r1, s2, c3, hf⟩ := bd_some hf
  cases r1 with
  | none =>
    have hf := oc_n hf
    refine Wd.callV (n := 1) (As := [.int x1]) (rest := []) (rv := some .null) hC hW 0 (kX7_treeIn c3) (by decide) rfl rfl q510 q512 qs32 q1 q513 ⟨rfl, rfl⟩ ⟨by decide +kernel, by decide +kernel, by decide +kernel⟩ ⟨Nat.le_of_ble_eq_true rfl, Nat.le_of_ble_eq_true rfl⟩ ⟨Nat.zero_le _, Nat.zero_le _⟩ rfl hl.1 rfl (st2 := [.null]) rfl (Nat.le_of_ble_eq_true rfl) dX7_tree_2 (fun H locs hW => ?_)
    refine lv_astore_nN (lv' := [(3, .null), (0, .ref (ad 0)), (1, .int x1), (2, .int x2)]) hx hb dX7_tree_5 rfl hl (by decide) rfl (fun ls hl => ?_)
    refine lv_aload_nN hx hb dX7_tree_6 rfl (lv_at hl 0 rfl) ?_
    refine lv_ifnonnullN hx hb dX7_tree_7 ?_
    refine lv_iconst (v := (-1)) hx hb dX7_tree_10 (by decide) ?_
    obtain ⟨rfl, rfl⟩ := sp hf
    exact Wd.iret hC hW dX7_tree_11
  | some q2 =>
    have hf := oc_s hf
    have hq2 := treeIn_lt c3
    refine Wd.callV (n := 1) (As := [.int x1]) (rest := []) (rv := some (.ref (ad (52 + 2 * q2)))) hC hW 0 (kX7_treeIn c3) (by decide) rfl rfl q510 q512 qs32 q1 q513 ⟨rfl, rfl⟩ ⟨by decide +kernel, by decide +kernel, by decide +kernel⟩ ⟨Nat.le_of_ble_eq_true rfl, Nat.le_of_ble_eq_true rfl⟩ ⟨Nat.zero_le _, Nat.zero_le _⟩ rfl hl.1 rfl (st2 := [.ref (ad (52 + 2 * q2))]) rfl (Nat.le_of_ble_eq_true rfl) dX7_tree_2 (fun H locs hW => ?_)
    refine lv_astore_n (lv' := [(3, .ref (ad (52 + 2 * q2))), (0, .ref (ad 0)), (1, .int x1), (2, .int x2)]) hx hb dX7_tree_5 rfl hl (by decide) rfl (fun ls hl => ?_)
    refine lv_aload_n hx hb dX7_tree_6 rfl (lv_at hl 0 rfl) ?_
    refine lv_ifnonnull (tgt := 12) hx hb dX7_tree_7 (by decide) ?_
    refine lv_iload_n hx hb dX7_tree_12 rfl (lv_at hl 3 rfl) ?_
    refine lv_topi (fun sw esw => ?_)
    have hf := nx_at esw hf
    by_cases hs0 : sw = (0 : Int32)
    · have hf := it_t hs0 hf
      refine lv_tableIn (tgt := 48) hx hb dX7_tree_13 (by rw [hs0]; decide) (by rw [hs0]; decide) (by rw [hs0]; rfl) (by decide) ?_
      refine lv_aload_n hx hb dX7_tree_48 rfl (lv_at hl 0 rfl) ?_
      refine gfX7_155 hC hW (52 + 2 * q2) (Tr.b hq2) (Tr.o hq2) (q := (28 + 6 * q2)) rfl dX7_tree_49 ?_
      refine gfX7_159 hC hW (28 + 6 * q2) (St.b0 (Tr.s hq2)) (St.o (Tr.s hq2)) rfl dX7_tree_52 ?_
      obtain ⟨rfl, rfl⟩ := sp hf
      exact Wd.iret hC hW dX7_tree_55
    have hf := it_f hs0 hf
    by_cases hs1 : sw = (1 : Int32)
    · have hf := it_t hs1 hf
      refine lv_tableIn (tgt := 56) hx hb dX7_tree_13 (by rw [hs1]; decide) (by rw [hs1]; decide) (by rw [hs1]; rfl) (by decide) ?_
      refine lv_aload_n hx hb dX7_tree_56 rfl (lv_at hl 0 rfl) ?_
      refine gfX7_162 hC hW (52 + 2 * q2) (Tr.b hq2) (Tr.o hq2) rfl dX7_tree_57 ?_
      obtain ⟨rfl, rfl⟩ := sp hf
      exact Wd.iret hC hW dX7_tree_60
    have hf := it_f hs1 hf
    by_cases hs2 : sw = (2 : Int32)
    · have hf := it_t hs2 hf
      refine lv_tableIn (tgt := 61) hx hb dX7_tree_13 (by rw [hs2]; decide) (by rw [hs2]; decide) (by rw [hs2]; rfl) (by decide) ?_
      refine lv_aload_n hx hb dX7_tree_61 rfl (lv_at hl 0 rfl) ?_
      refine gfX7_165 hC hW (52 + 2 * q2) (Tr.b hq2) (Tr.o hq2) rfl dX7_tree_62 ?_
      obtain ⟨rfl, rfl⟩ := sp hf
      exact Wd.iret hC hW dX7_tree_65
    have hf := it_f hs2 hf
    by_cases hs3 : sw = (3 : Int32)
    · have hf := it_t hs3 hf
      refine lv_tableIn (tgt := 66) hx hb dX7_tree_13 (by rw [hs3]; decide) (by rw [hs3]; decide) (by rw [hs3]; rfl) (by decide) ?_
      refine lv_aload_n hx hb dX7_tree_66 rfl (lv_at hl 0 rfl) ?_
      refine gfX7_168 hC hW (52 + 2 * q2) (Tr.b hq2) (Tr.o hq2) rfl dX7_tree_67 ?_
      obtain ⟨rfl, rfl⟩ := sp hf
      exact Wd.iret hC hW dX7_tree_70
    have hf := it_f hs3 hf
    by_cases hs4 : sw = (4 : Int32)
    · have hf := it_t hs4 hf
      refine lv_tableIn (tgt := 71) hx hb dX7_tree_13 (by rw [hs4]; decide) (by rw [hs4]; decide) (by rw [hs4]; rfl) (by decide) ?_
      refine lv_aload_n hx hb dX7_tree_71 rfl (lv_at hl 0 rfl) ?_
      refine gfX7_171 hC hW (52 + 2 * q2) (Tr.b hq2) (Tr.o hq2) rfl dX7_tree_72 ?_
      refine lv_if_eq (tgt := 82) hx hb dX7_tree_75 (by decide) (fun h4 => ?_) (fun h4 => ?_)
      · have hf := it_t h4 hf
        refine lv_iconst (v := 0) hx hb dX7_tree_82 (by decide) ?_
        obtain ⟨rfl, rfl⟩ := sp hf
        exact Wd.iret hC hW dX7_tree_83
      · have hf := it_f h4 hf
        refine lv_iconst (v := 1) hx hb dX7_tree_78 (by decide) ?_
        refine lv_goto (tgt := 83) hx hb dX7_tree_79 (by decide) ?_
        obtain ⟨rfl, rfl⟩ := sp hf
        exact Wd.iret hC hW dX7_tree_83
    have hf := it_f hs4 hf
    refine lv_tableOut (tgt := 84) hx hb dX7_tree_13 (by have t0 := lv_neT hs0 (a := 0) (by decide); have t1 := lv_neT hs1 (a := 1) (by decide); have t2 := lv_neT hs2 (a := 2) (by decide); have t3 := lv_neT hs3 (a := 3) (by decide); have t4 := lv_neT hs4 (a := 4) (by decide); omega) (by decide) ?_
    refine lv_iconst (v := (-1)) hx hb dX7_tree_84 (by decide) ?_
    obtain ⟨rfl, rfl⟩ := sp hf
    exact Wd.iret hC hW dX7_tree_85
abbrev rmX7_step : Room := { frames := 1, cells := 0, slots := 0, locals := 21 }
def fX7_step (N : Nat) (x1 : Int32) (x2 : Int32) (x3 : Int32) (σ : St) : Option (Int32 × St) := bd (fX7_treeIn N x1 σ) (fun r1 s2 => oc r1 (some ((-1 : Int32), s2)) (fun q2 => bd (fX4_has N (28 + 6 * q2) x2 s2) (fun r4 s5 => if r4 = 0 then some ((-1 : Int32), s5) else nx x3 (fun sw => if sw = (0 : Int32) then gd (ib x2 19) (some ((s5.1 ((28 + 6 * q2) + 1) x2.toNatClampNeg), s5)) else if sw = (1 : Int32) then gd (ib x2 19) (some ((s5.1 ((28 + 6 * q2) + 2) x2.toNatClampNeg), s5)) else if sw = (2 : Int32) then gd (ib x2 19) (bd (fJ6_bitCount_0f7a4 N (s5.1 ((28 + 6 * q2) + 3) x2.toNatClampNeg) s5) (fun r11 s12 => some (r11, s12))) else if sw = (3 : Int32) then gd (ib x2 19) (some ((s5.1 ((28 + 6 * q2) + 3) x2.toNatClampNeg), s5)) else some ((-1 : Int32), s5)))))
set_option maxHeartbeats 4000000 in
set_option maxRecDepth 100000 in
theorem kX7_step {l : Launch} {D : va_G} {cA : Nat → ClassId} {ad : Nat → Nat} {N : Nat} {x1 : Int32} {x2 : Int32} {x3 : Int32} {σ : St} {r : Int32} {σ' : St} (hf : fX7_step N x1 x2 x3 σ = some (r, σ')) : MW kdX 140 l D cA ad ⟨RX7, "step", "(III)I"⟩ cX7_step 5 (some .int) rmX7_step [.ref (ad 0), .int x1, .int x2, .int x3] σ (some (.int r)) σ' := by
  refine MW.of (by decide) (Nat.le_of_ble_eq_true rfl) ?_
  intro p e s m args below meth c ls hC hW hl
  have hx := hC.1
  have hb := hC.2.1
  have hown := hC.2.2.2.1
  have hts := hC.2.2.2.2.1
  have hl : lv_has ls 5 [(0, .ref (ad 0)), (1, .int x1), (2, .int x2), (3, .int x3)] := hl
  unfold fX7_step at hf
  refine lv_aload_n hx hb dX7_step_0 rfl (lv_at hl 0 rfl) ?_
  refine lv_iload_n hx hb dX7_step_1 rfl (lv_at hl 1 rfl) ?_
  obtain ⟨r1, s2, c3, hf⟩ := bd_some hf
  cases r1 with
  | none =>
    have hf := oc_n hf
    refine Wd.callV (n := 1) (As := [.int x1]) (rest := []) (rv := some .null) hC hW 0 (kX7_treeIn c3) (by decide) rfl rfl q510 q512 qs32 q1 q513 ⟨rfl, rfl⟩ ⟨by decide +kernel, by decide +kernel, by decide +kernel⟩ ⟨Nat.le_of_ble_eq_true rfl, Nat.le_of_ble_eq_true rfl⟩ ⟨Nat.zero_le _, Nat.zero_le _⟩ rfl hl.1 rfl (st2 := [.null]) rfl (Nat.le_of_ble_eq_true rfl) dX7_step_2 (fun H locs hW => ?_)
    refine lv_astoreN (lv' := [(4, .null), (0, .ref (ad 0)), (1, .int x1), (2, .int x2), (3, .int x3)]) hx hb dX7_step_5 hl (by decide) rfl (fun ls hl => ?_)
    refine lv_aloadN hx hb dX7_step_7 (lv_at hl 0 rfl) ?_
    refine lv_ifnullN (tgt := 24) hx hb dX7_step_9 (by decide) ?_
    refine lv_iconst (v := (-1)) hx hb dX7_step_24 (by decide) ?_
    obtain ⟨rfl, rfl⟩ := sp hf
    exact Wd.iret hC hW dX7_step_25
  | some q2 =>
    have hf := oc_s hf
    have hq2 := treeIn_lt c3
    refine Wd.callV (n := 1) (As := [.int x1]) (rest := []) (rv := some (.ref (ad (52 + 2 * q2)))) hC hW 0 (kX7_treeIn c3) (by decide) rfl rfl q510 q512 qs32 q1 q513 ⟨rfl, rfl⟩ ⟨by decide +kernel, by decide +kernel, by decide +kernel⟩ ⟨Nat.le_of_ble_eq_true rfl, Nat.le_of_ble_eq_true rfl⟩ ⟨Nat.zero_le _, Nat.zero_le _⟩ rfl hl.1 rfl (st2 := [.ref (ad (52 + 2 * q2))]) rfl (Nat.le_of_ble_eq_true rfl) dX7_step_2 (fun H locs hW => ?_)
    refine lv_astore (lv' := [(4, .ref (ad (52 + 2 * q2))), (0, .ref (ad 0)), (1, .int x1), (2, .int x2), (3, .int x3)]) hx hb dX7_step_5 hl (by decide) rfl (fun ls hl => ?_)
    refine lv_aload hx hb dX7_step_7 (lv_at hl 0 rfl) ?_
    refine lv_ifnull hx hb dX7_step_9 ?_
    refine lv_aload hx hb dX7_step_12 (lv_at hl 0 rfl) ?_
    refine gfX7_155 hC hW (52 + 2 * q2) (Tr.b hq2) (Tr.o hq2) (q := (28 + 6 * q2)) rfl dX7_step_14 ?_
    refine lv_iload_n hx hb dX7_step_17 rfl (lv_at hl 3 rfl) ?_
    obtain ⟨r4, s5, c6, hf⟩ := bd_some hf
    refine Wd.callVN (n := 1) (As := [.int x2]) (rest := []) (rv := some (.int r4)) hC hW (28 + 6 * q2) (kX4_has (Tr.s hq2) c6) (St.b0 (Tr.s hq2)) (St.o (Tr.s hq2)) rfl q518 q500 qs31 q6 q501 ⟨rfl, rfl⟩ ⟨by decide +kernel, by decide +kernel, by decide +kernel⟩ ⟨Nat.le_of_ble_eq_true rfl, Nat.le_of_ble_eq_true rfl⟩ ⟨Nat.zero_le _, Nat.zero_le _⟩ rfl hl.1 rfl (st2 := [.int r4]) rfl (Nat.le_of_ble_eq_true rfl) dX7_step_18 (fun H locs hW => ?_)
    refine lv_if_ne (tgt := 26) hx hb dX7_step_21 (by decide) (fun h7 => ?_) (fun h7 => ?_)
    · have hf := it_f h7 hf
      refine lv_iload_n hx hb dX7_step_26 rfl (lv_at hl 4 rfl) ?_
      refine lv_topi (fun sw esw => ?_)
      have hf := nx_at esw hf
      by_cases hs0 : sw = (0 : Int32)
      · have hf := it_t hs0 hf
        refine lv_tableIn (tgt := 56) hx hb dX7_step_27 (by rw [hs0]; decide) (by rw [hs0]; decide) (by rw [hs0]; rfl) (by decide) ?_
        refine lv_aload hx hb dX7_step_56 (lv_at hl 0 rfl) ?_
        refine gfX7_155 hC hW (52 + 2 * q2) (Tr.b hq2) (Tr.o hq2) (q := (28 + 6 * q2)) rfl dX7_step_58 ?_
        refine gfX7_176 hC hW (28 + 6 * q2) (St.b0 (Tr.s hq2)) (St.o (Tr.s hq2)) (q := ((28 + 6 * q2) + 1)) rfl dX7_step_61 ?_
        refine lv_iload_n hx hb dX7_step_64 rfl (lv_at hl 3 rfl) ?_
        obtain ⟨h8, hf⟩ := gd_some hf
        refine Wd.iald hC hW ((28 + 6 * q2) + 1) (St.b (Tr.s hq2) 1 (by decide)) (St.a1 (Tr.s hq2)) h8 dX7_step_65 ?_
        obtain ⟨rfl, rfl⟩ := sp hf
        exact Wd.iret hC hW dX7_step_66
      have hf := it_f hs0 hf
      by_cases hs1 : sw = (1 : Int32)
      · have hf := it_t hs1 hf
        refine lv_tableIn (tgt := 67) hx hb dX7_step_27 (by rw [hs1]; decide) (by rw [hs1]; decide) (by rw [hs1]; rfl) (by decide) ?_
        refine lv_aload hx hb dX7_step_67 (lv_at hl 0 rfl) ?_
        refine gfX7_155 hC hW (52 + 2 * q2) (Tr.b hq2) (Tr.o hq2) (q := (28 + 6 * q2)) rfl dX7_step_69 ?_
        refine gfX7_179 hC hW (28 + 6 * q2) (St.b0 (Tr.s hq2)) (St.o (Tr.s hq2)) (q := ((28 + 6 * q2) + 2)) rfl dX7_step_72 ?_
        refine lv_iload_n hx hb dX7_step_75 rfl (lv_at hl 3 rfl) ?_
        obtain ⟨h9, hf⟩ := gd_some hf
        refine Wd.iald hC hW ((28 + 6 * q2) + 2) (St.b (Tr.s hq2) 2 (by decide)) (St.a2 (Tr.s hq2)) h9 dX7_step_76 ?_
        obtain ⟨rfl, rfl⟩ := sp hf
        exact Wd.iret hC hW dX7_step_77
      have hf := it_f hs1 hf
      by_cases hs2 : sw = (2 : Int32)
      · have hf := it_t hs2 hf
        refine lv_tableIn (tgt := 78) hx hb dX7_step_27 (by rw [hs2]; decide) (by rw [hs2]; decide) (by rw [hs2]; rfl) (by decide) ?_
        refine lv_aload hx hb dX7_step_78 (lv_at hl 0 rfl) ?_
        refine gfX7_155 hC hW (52 + 2 * q2) (Tr.b hq2) (Tr.o hq2) (q := (28 + 6 * q2)) rfl dX7_step_80 ?_
        refine gfX7_182 hC hW (28 + 6 * q2) (St.b0 (Tr.s hq2)) (St.o (Tr.s hq2)) (q := ((28 + 6 * q2) + 3)) rfl dX7_step_83 ?_
        refine lv_iload_n hx hb dX7_step_86 rfl (lv_at hl 3 rfl) ?_
        obtain ⟨h10, hf⟩ := gd_some hf
        refine Wd.iald hC hW ((28 + 6 * q2) + 3) (St.b (Tr.s hq2) 3 (by decide)) (St.a3 (Tr.s hq2)) h10 dX7_step_87 ?_
        obtain ⟨r11, s12, c13, hf⟩ := bd_some hf
        refine Wd.callS (n := 1) (As := [.int (s5.1 ((28 + 6 * q2) + 3) x2.toNatClampNeg)]) (rest := []) (rv := some (.int r11)) hC hW (kJ6_bitCount_0f7a4 c13) q372 q373 q11 q374 ⟨rfl, rfl⟩ ⟨by decide +kernel, by decide +kernel, by decide +kernel⟩ ⟨Nat.le_of_ble_eq_true rfl, Nat.le_of_ble_eq_true rfl⟩ ⟨Nat.zero_le _, Nat.zero_le _⟩ rfl hl.1 rfl (st2 := [.int r11]) rfl (Nat.le_of_ble_eq_true rfl) dX7_step_88 (fun H locs hW => ?_)
        obtain ⟨rfl, rfl⟩ := sp hf
        exact Wd.iret hC hW dX7_step_91
      have hf := it_f hs2 hf
      by_cases hs3 : sw = (3 : Int32)
      · have hf := it_t hs3 hf
        refine lv_tableIn (tgt := 92) hx hb dX7_step_27 (by rw [hs3]; decide) (by rw [hs3]; decide) (by rw [hs3]; rfl) (by decide) ?_
        refine lv_aload hx hb dX7_step_92 (lv_at hl 0 rfl) ?_
        refine gfX7_155 hC hW (52 + 2 * q2) (Tr.b hq2) (Tr.o hq2) (q := (28 + 6 * q2)) rfl dX7_step_94 ?_
        refine gfX7_182 hC hW (28 + 6 * q2) (St.b0 (Tr.s hq2)) (St.o (Tr.s hq2)) (q := ((28 + 6 * q2) + 3)) rfl dX7_step_97 ?_
        refine lv_iload_n hx hb dX7_step_100 rfl (lv_at hl 3 rfl) ?_
        obtain ⟨h14, hf⟩ := gd_some hf
        refine Wd.iald hC hW ((28 + 6 * q2) + 3) (St.b (Tr.s hq2) 3 (by decide)) (St.a3 (Tr.s hq2)) h14 dX7_step_101 ?_
        obtain ⟨rfl, rfl⟩ := sp hf
        exact Wd.iret hC hW dX7_step_102
      have hf := it_f hs3 hf
      refine lv_tableOut (tgt := 103) hx hb dX7_step_27 (by have t0 := lv_neT hs0 (a := 0) (by decide); have t1 := lv_neT hs1 (a := 1) (by decide); have t2 := lv_neT hs2 (a := 2) (by decide); have t3 := lv_neT hs3 (a := 3) (by decide); omega) (by decide) ?_
      refine lv_iconst (v := (-1)) hx hb dX7_step_103 (by decide) ?_
      obtain ⟨rfl, rfl⟩ := sp hf
      exact Wd.iret hC hW dX7_step_104
    · have hf := it_t h7 hf
      refine lv_iconst (v := (-1)) hx hb dX7_step_24 (by decide) ?_
      obtain ⟨rfl, rfl⟩ := sp hf
      exact Wd.iret hC hW dX7_step_25
abbrev rmX7_height : Room := { frames := 1, cells := 0, slots := 0, locals := 21 }
def fX7_height (N : Nat) (x1 : Int32) (x2 : Int32) (x3 : Int32) (σ : St) : Option (Int64 × St) := bd (fX7_treeIn N x1 σ) (fun r1 s2 => oc r1 (some ((-1 : Int64), s2)) (fun q2 => bd (fX4_has N (28 + 6 * q2) x2 s2) (fun r4 s5 => if r4 = 0 then some ((-1 : Int64), s5) else if x3 < 0 then some ((-1 : Int64), s5) else if x3 ≤ (1 : Int32) then if x3 = 0 then gd (ib x2 19) (some ((s5.2 ((28 + 6 * q2) + 4) x2.toNatClampNeg), s5)) else gd (ib x2 19) (some ((s5.2 ((28 + 6 * q2) + 5) x2.toNatClampNeg), s5)) else some ((-1 : Int64), s5))))
set_option maxHeartbeats 4000000 in
set_option maxRecDepth 100000 in
theorem kX7_height {l : Launch} {D : va_G} {cA : Nat → ClassId} {ad : Nat → Nat} {N : Nat} {x1 : Int32} {x2 : Int32} {x3 : Int32} {σ : St} {r : Int64} {σ' : St} (hf : fX7_height N x1 x2 x3 σ = some (r, σ')) : MW kdX 140 l D cA ad ⟨RX7, "height", "(III)J"⟩ cX7_height 5 (some .long) rmX7_height [.ref (ad 0), .int x1, .int x2, .int x3] σ (some (.long r)) σ' := by
  refine MW.of (by decide) (Nat.le_of_ble_eq_true rfl) ?_
  intro p e s m args below meth c ls hC hW hl
  have hx := hC.1
  have hb := hC.2.1
  have hown := hC.2.2.2.1
  have hts := hC.2.2.2.2.1
  have hl : lv_has ls 5 [(0, .ref (ad 0)), (1, .int x1), (2, .int x2), (3, .int x3)] := hl
  unfold fX7_height at hf
  refine lv_aload_n hx hb dX7_height_0 rfl (lv_at hl 0 rfl) ?_
  refine lv_iload_n hx hb dX7_height_1 rfl (lv_at hl 1 rfl) ?_
  obtain ⟨r1, s2, c3, hf⟩ := bd_some hf
  cases r1 with
  | none =>
    have hf := oc_n hf
    refine Wd.callV (n := 1) (As := [.int x1]) (rest := []) (rv := some .null) hC hW 0 (kX7_treeIn c3) (by decide) rfl rfl q510 q512 qs32 q1 q513 ⟨rfl, rfl⟩ ⟨by decide +kernel, by decide +kernel, by decide +kernel⟩ ⟨Nat.le_of_ble_eq_true rfl, Nat.le_of_ble_eq_true rfl⟩ ⟨Nat.zero_le _, Nat.zero_le _⟩ rfl hl.1 rfl (st2 := [.null]) rfl (Nat.le_of_ble_eq_true rfl) dX7_height_2 (fun H locs hW => ?_)
    refine lv_astoreN (lv' := [(4, .null), (0, .ref (ad 0)), (1, .int x1), (2, .int x2), (3, .int x3)]) hx hb dX7_height_5 hl (by decide) rfl (fun ls hl => ?_)
    refine lv_aloadN hx hb dX7_height_7 (lv_at hl 0 rfl) ?_
    refine lv_ifnullN (tgt := 33) hx hb dX7_height_9 (by decide) ?_
    refine lv_ldc2 hx hb hown (hts _ q371) dX7_height_33 ?_
    obtain ⟨rfl, rfl⟩ := sp hf
    exact Wd.lret hC hW dX7_height_36
  | some q2 =>
    have hf := oc_s hf
    have hq2 := treeIn_lt c3
    refine Wd.callV (n := 1) (As := [.int x1]) (rest := []) (rv := some (.ref (ad (52 + 2 * q2)))) hC hW 0 (kX7_treeIn c3) (by decide) rfl rfl q510 q512 qs32 q1 q513 ⟨rfl, rfl⟩ ⟨by decide +kernel, by decide +kernel, by decide +kernel⟩ ⟨Nat.le_of_ble_eq_true rfl, Nat.le_of_ble_eq_true rfl⟩ ⟨Nat.zero_le _, Nat.zero_le _⟩ rfl hl.1 rfl (st2 := [.ref (ad (52 + 2 * q2))]) rfl (Nat.le_of_ble_eq_true rfl) dX7_height_2 (fun H locs hW => ?_)
    refine lv_astore (lv' := [(4, .ref (ad (52 + 2 * q2))), (0, .ref (ad 0)), (1, .int x1), (2, .int x2), (3, .int x3)]) hx hb dX7_height_5 hl (by decide) rfl (fun ls hl => ?_)
    refine lv_aload hx hb dX7_height_7 (lv_at hl 0 rfl) ?_
    refine lv_ifnull hx hb dX7_height_9 ?_
    refine lv_aload hx hb dX7_height_12 (lv_at hl 0 rfl) ?_
    refine gfX7_155 hC hW (52 + 2 * q2) (Tr.b hq2) (Tr.o hq2) (q := (28 + 6 * q2)) rfl dX7_height_14 ?_
    refine lv_iload_n hx hb dX7_height_17 rfl (lv_at hl 3 rfl) ?_
    obtain ⟨r4, s5, c6, hf⟩ := bd_some hf
    refine Wd.callVN (n := 1) (As := [.int x2]) (rest := []) (rv := some (.int r4)) hC hW (28 + 6 * q2) (kX4_has (Tr.s hq2) c6) (St.b0 (Tr.s hq2)) (St.o (Tr.s hq2)) rfl q518 q500 qs31 q6 q501 ⟨rfl, rfl⟩ ⟨by decide +kernel, by decide +kernel, by decide +kernel⟩ ⟨Nat.le_of_ble_eq_true rfl, Nat.le_of_ble_eq_true rfl⟩ ⟨Nat.zero_le _, Nat.zero_le _⟩ rfl hl.1 rfl (st2 := [.int r4]) rfl (Nat.le_of_ble_eq_true rfl) dX7_height_18 (fun H locs hW => ?_)
    refine lv_if_eq (tgt := 33) hx hb dX7_height_21 (by decide) (fun h7 => ?_) (fun h7 => ?_)
    · have hf := it_t h7 hf
      refine lv_ldc2 hx hb hown (hts _ q371) dX7_height_33 ?_
      obtain ⟨rfl, rfl⟩ := sp hf
      exact Wd.lret hC hW dX7_height_36
    · have hf := it_f h7 hf
      refine lv_iload_n hx hb dX7_height_24 rfl (lv_at hl 4 rfl) ?_
      refine lv_if_lt (tgt := 33) hx hb dX7_height_25 (by decide) (fun h8 => ?_) (fun h8 => ?_)
      · have hf := it_t h8 hf
        refine lv_ldc2 hx hb hown (hts _ q371) dX7_height_33 ?_
        obtain ⟨rfl, rfl⟩ := sp hf
        exact Wd.lret hC hW dX7_height_36
      · have hf := it_f h8 hf
        refine lv_iload_n hx hb dX7_height_28 rfl (lv_at hl 4 rfl) ?_
        refine lv_iconst (v := 1) hx hb dX7_height_29 (by decide) ?_
        refine lv_icmp_le (tgt := 37) hx hb dX7_height_30 (by decide) (fun h9 => ?_) (fun h9 => ?_)
        · have hf := it_t h9 hf
          refine lv_iload_n hx hb dX7_height_37 rfl (lv_at hl 4 rfl) ?_
          refine lv_if_ne (tgt := 54) hx hb dX7_height_38 (by decide) (fun h10 => ?_) (fun h10 => ?_)
          · have hf := it_f h10 hf
            refine lv_aload hx hb dX7_height_54 (lv_at hl 0 rfl) ?_
            refine gfX7_155 hC hW (52 + 2 * q2) (Tr.b hq2) (Tr.o hq2) (q := (28 + 6 * q2)) rfl dX7_height_56 ?_
            refine gfX7_189 hC hW (28 + 6 * q2) (St.b0 (Tr.s hq2)) (St.o (Tr.s hq2)) (q := ((28 + 6 * q2) + 5)) rfl dX7_height_59 ?_
            refine lv_iload_n hx hb dX7_height_62 rfl (lv_at hl 3 rfl) ?_
            obtain ⟨h11, hf⟩ := gd_some hf
            refine Wd.lald hC hW ((28 + 6 * q2) + 5) (St.b (Tr.s hq2) 5 (by decide)) (St.a5 (Tr.s hq2)) h11 dX7_height_63 ?_
            obtain ⟨rfl, rfl⟩ := sp hf
            exact Wd.lret hC hW dX7_height_64
          · have hf := it_t h10 hf
            refine lv_aload hx hb dX7_height_41 (lv_at hl 0 rfl) ?_
            refine gfX7_155 hC hW (52 + 2 * q2) (Tr.b hq2) (Tr.o hq2) (q := (28 + 6 * q2)) rfl dX7_height_43 ?_
            refine gfX7_185 hC hW (28 + 6 * q2) (St.b0 (Tr.s hq2)) (St.o (Tr.s hq2)) (q := ((28 + 6 * q2) + 4)) rfl dX7_height_46 ?_
            refine lv_iload_n hx hb dX7_height_49 rfl (lv_at hl 3 rfl) ?_
            obtain ⟨h12, hf⟩ := gd_some hf
            refine Wd.lald hC hW ((28 + 6 * q2) + 4) (St.b (Tr.s hq2) 4 (by decide)) (St.a4 (Tr.s hq2)) h12 dX7_height_50 ?_
            refine lv_goto (tgt := 64) hx hb dX7_height_51 (by decide) ?_
            obtain ⟨rfl, rfl⟩ := sp hf
            exact Wd.lret hC hW dX7_height_64
        · have hf := it_f h9 hf
          refine lv_ldc2 hx hb hown (hts _ q371) dX7_height_33 ?_
          obtain ⟨rfl, rfl⟩ := sp hf
          exact Wd.lret hC hW dX7_height_36
abbrev rmX6_has : Room := { frames := 0, cells := 0, slots := 0, locals := 0 }
def fX6_has (N : Nat) (q : Nat) (x1 : Int32) (σ : St) : Option (Int32 × St) := if x1 < 0 then some ((0 : Int32), σ) else if (σ.1 (52 + 2 * q) 2) ≤ x1 then some ((0 : Int32), σ) else some ((1 : Int32), σ)
set_option maxHeartbeats 4000000 in
set_option maxRecDepth 100000 in
theorem kX6_has {l : Launch} {D : va_G} {cA : Nat → ClassId} {ad : Nat → Nat} {N : Nat} {q : Nat} (hq : q < 4) {x1 : Int32} {σ : St} {r : Int32} {σ' : St} (hf : fX6_has N q x1 σ = some (r, σ')) : MW kdX 140 l D cA ad ⟨RX6, "has", "(I)Z"⟩ cX6_has 2 (some .boolean) rmX6_has [.ref (ad (52 + 2 * q)), .int x1] σ (some (.int r)) σ' := by
  refine MW.of (by decide) (Nat.le_of_ble_eq_true rfl) ?_
  intro p e s m args below meth c ls hC hW hl
  have hx := hC.1
  have hb := hC.2.1
  have hown := hC.2.2.2.1
  have hts := hC.2.2.2.2.1
  have hl : lv_has ls 2 [(0, .ref (ad (52 + 2 * q))), (1, .int x1)] := hl
  unfold fX6_has at hf
  refine lv_iload_n hx hb dX6_has_0 rfl (lv_at hl 1 rfl) ?_
  refine lv_if_lt (tgt := 16) hx hb dX6_has_1 (by decide) (fun h1 => ?_) (fun h1 => ?_)
  · have hf := it_t h1 hf
    refine lv_iconst (v := 0) hx hb dX6_has_16 (by decide) ?_
    obtain ⟨rfl, rfl⟩ := sp hf
    exact Wd.zret hC hW (Or.inl rfl) dX6_has_17
  · have hf := it_f h1 hf
    refine lv_iload_n hx hb dX6_has_4 rfl (lv_at hl 1 rfl) ?_
    refine lv_aload_n hx hb dX6_has_5 rfl (lv_at hl 0 rfl) ?_
    refine gfX6_22 hC hW (52 + 2 * q) (Tr.b hq) (Tr.o hq) rfl dX6_has_6 ?_
    refine lv_icmp_ge (tgt := 16) hx hb dX6_has_9 (by decide) (fun h2 => ?_) (fun h2 => ?_)
    · have hf := it_t h2 hf
      refine lv_iconst (v := 0) hx hb dX6_has_16 (by decide) ?_
      obtain ⟨rfl, rfl⟩ := sp hf
      exact Wd.zret hC hW (Or.inl rfl) dX6_has_17
    · have hf := it_f h2 hf
      refine lv_iconst (v := 1) hx hb dX6_has_12 (by decide) ?_
      refine lv_goto (tgt := 17) hx hb dX6_has_13 (by decide) ?_
      obtain ⟨rfl, rfl⟩ := sp hf
      exact Wd.zret hC hW (Or.inr rfl) dX6_has_17
abbrev rmX4_firstWithAll : Room := { frames := 0, cells := 0, slots := 0, locals := 0 }
def fX4_firstWithAll_2 (N : Nat) (a : Nat) : Nat → Int32 → Int32 → St → Option (Int32 × St)
  | 0, _, _, _ => none
  | n + 1, x1, x2, σ => if (σ.1 a 0) ≤ x2 then some ((-1 : Int32), σ) else gd (ib x2 19) (if ((σ.1 (a + 3) x2.toNatClampNeg) &&& x1) = x1 then some (x2, σ) else nx (x2 + (1 : Int32)) (fun v4 => ((fX4_firstWithAll_2 N a n) x1 v4 σ)))
set_option maxHeartbeats 4000000 in
set_option maxRecDepth 100000 in
theorem wX4_firstWithAll_2 (hC : Cx RX4 cX4_firstWithAll 3 (some .int) D cA p s m args meth c) {N : Nat} {a : Nat} (ha : isSt a) {r : Int32} {σ' : St} : ∀ (n : Nat) (x1 : Int32) (x2 : Int32) (σ : St) (H : Heap) (locs : List Loc) (ls : Array Slot), fX4_firstWithAll_2 N a n x1 x2 σ = some (r, σ') → Wd kdX 140 D cA ad s σ H locs → lv_has ls 3 [(0, .ref (ad a)), (1, .int x1), (2, .int x2)] → W p l e rmX4_firstWithAll s m args below meth c H locs 0 0 (EndW kdX 140 D cA ad below args s (some (.int r)) σ') (F0 m 2 ls []) := by
  have hx := hC.1
  have hb := hC.2.1
  have hown := hC.2.2.2.1
  have hts := hC.2.2.2.2.1
  intro n
  induction n with
  | zero =>
    intro x1 x2 σ H locs ls hf
    rw [fX4_firstWithAll_2] at hf
    cases hf
  | succ n ih =>
    intro x1 x2 σ H locs ls hf hW hl
    rw [fX4_firstWithAll_2] at hf
    refine lv_iload_n hx hb dX4_firstWithAll_2 rfl (lv_at hl 2 rfl) ?_
    refine lv_aload_n hx hb dX4_firstWithAll_3 rfl (lv_at hl 0 rfl) ?_
    refine gfX4_28 hC hW a (St.b0 ha) (St.o ha) rfl dX4_firstWithAll_4 ?_
    refine lv_icmp_ge (tgt := 30) hx hb dX4_firstWithAll_7 (by decide) (fun h1 => ?_) (fun h1 => ?_)
    · have hf := it_t h1 hf
      refine lv_iconst (v := (-1)) hx hb dX4_firstWithAll_30 (by decide) ?_
      obtain ⟨rfl, rfl⟩ := sp hf
      exact Wd.iret hC hW dX4_firstWithAll_31
    · have hf := it_f h1 hf
      refine lv_aload_n hx hb dX4_firstWithAll_10 rfl (lv_at hl 0 rfl) ?_
      refine gfX4_18 hC hW a (St.b0 ha) (St.o ha) (q := (a + 3)) rfl dX4_firstWithAll_11 ?_
      refine lv_iload_n hx hb dX4_firstWithAll_14 rfl (lv_at hl 2 rfl) ?_
      obtain ⟨h2, hf⟩ := gd_some hf
      refine Wd.iald hC hW (a + 3) (St.b ha 3 (by decide)) (St.a3 ha) h2 dX4_firstWithAll_15 ?_
      refine lv_iload_n hx hb dX4_firstWithAll_16 rfl (lv_at hl 1 rfl) ?_
      refine lv_iand hx hb dX4_firstWithAll_17 ?_
      refine lv_iload_n hx hb dX4_firstWithAll_18 rfl (lv_at hl 1 rfl) ?_
      refine lv_icmp_ne (tgt := 24) hx hb dX4_firstWithAll_19 (by decide) (fun h3 => ?_) (fun h3 => ?_)
      · have hf := it_f h3 hf
        obtain ⟨v4, ev4⟩ : ∃ y : Int32, y = x2 + (1 : Int32) := ⟨_, rfl⟩
        have hf := nx_at ev4 hf
        refine lv_iinc (v := v4) (lv' := [(2, .int v4), (0, .ref (ad a)), (1, .int x1)]) hx hb dX4_firstWithAll_24 hl (k := 2) rfl (by rw [ev4]; rfl) (by decide) rfl (fun ls hl => ?_)
        refine lv_goto (tgt := 2) hx hb dX4_firstWithAll_27 (by decide) ?_
        exact ih _ _ _ _ _ _ hf hW (lv_sub hl [1, 2, 0] rfl)
      · have hf := it_t h3 hf
        refine lv_iload_n hx hb dX4_firstWithAll_22 rfl (lv_at hl 2 rfl) ?_
        obtain ⟨rfl, rfl⟩ := sp hf
        exact Wd.iret hC hW dX4_firstWithAll_23
def fX4_firstWithAll (N : Nat) (a : Nat) (x1 : Int32) (σ : St) : Option (Int32 × St) := (fX4_firstWithAll_2 N a N x1 (0 : Int32) σ)
set_option maxHeartbeats 4000000 in
set_option maxRecDepth 100000 in
theorem kX4_firstWithAll {l : Launch} {D : va_G} {cA : Nat → ClassId} {ad : Nat → Nat} {N : Nat} {a : Nat} (ha : isSt a) {x1 : Int32} {σ : St} {r : Int32} {σ' : St} (hf : fX4_firstWithAll N a x1 σ = some (r, σ')) : MW kdX 140 l D cA ad ⟨RX4, "firstWithAll", "(I)I"⟩ cX4_firstWithAll 3 (some .int) rmX4_firstWithAll [.ref (ad a), .int x1] σ (some (.int r)) σ' := by
  refine MW.of (by decide) (Nat.le_of_ble_eq_true rfl) ?_
  intro p e s m args below meth c ls hC hW hl
  have hx := hC.1
  have hb := hC.2.1
  have hown := hC.2.2.2.1
  have hts := hC.2.2.2.2.1
  have hl : lv_has ls 3 [(0, .ref (ad a)), (1, .int x1)] := hl
  unfold fX4_firstWithAll at hf
  refine lv_iconst (v := 0) hx hb dX4_firstWithAll_0 (by decide) ?_
  refine lv_istore_n (lv' := [(2, .int (0 : Int32)), (0, .ref (ad a)), (1, .int x1)]) hx hb dX4_firstWithAll_1 rfl hl (by decide) rfl (fun ls hl => ?_)
  exact wX4_firstWithAll_2 hC ha N _ _ _ _ _ _ hf hW (lv_sub hl [1, 2, 0] rfl)
abbrev rmX7_joins : Room := { frames := 1, cells := 0, slots := 0, locals := 22 }
def fX7_joins (N : Nat) (x1 : Int32) (x2 : Int32) (x3 : Int32) (σ : St) : Option (Int32 × St) := bd (fX7_treeIn N x1 σ) (fun r1 s2 => oc r1 (some ((-1 : Int32), s2)) (fun q2 => bd (fX6_has N q2 x2 s2) (fun r4 s5 => if r4 = 0 then some ((-1 : Int32), s5) else bd (fX6_has N q2 x3 s5) (fun r8 s9 => if r8 = 0 then some ((-1 : Int32), s9) else if x2 = x3 then some ((-1 : Int32), s9) else bd (fX4_firstWithAll N (28 + 6 * q2) (((1 : Int32) <<< (x2 &&& 31)) ||| ((1 : Int32) <<< (x3 &&& 31))) s9) (fun r13 s14 => some (r13, s14))))))
set_option maxHeartbeats 4000000 in
set_option maxRecDepth 100000 in
theorem kX7_joins {l : Launch} {D : va_G} {cA : Nat → ClassId} {ad : Nat → Nat} {N : Nat} {x1 : Int32} {x2 : Int32} {x3 : Int32} {σ : St} {r : Int32} {σ' : St} (hf : fX7_joins N x1 x2 x3 σ = some (r, σ')) : MW kdX 140 l D cA ad ⟨RX7, "joins", "(III)I"⟩ cX7_joins 5 (some .int) rmX7_joins [.ref (ad 0), .int x1, .int x2, .int x3] σ (some (.int r)) σ' := by
  refine MW.of (by decide) (Nat.le_of_ble_eq_true rfl) ?_
  intro p e s m args below meth c ls hC hW hl
  have hx := hC.1
  have hb := hC.2.1
  have hown := hC.2.2.2.1
  have hts := hC.2.2.2.2.1
  have hl : lv_has ls 5 [(0, .ref (ad 0)), (1, .int x1), (2, .int x2), (3, .int x3)] := hl
  unfold fX7_joins at hf
  refine lv_aload_n hx hb dX7_joins_0 rfl (lv_at hl 0 rfl) ?_
  refine lv_iload_n hx hb dX7_joins_1 rfl (lv_at hl 1 rfl) ?_
  obtain ⟨r1, s2, c3, hf⟩ := bd_some hf
  cases r1 with
  | none =>
    have hf := oc_n hf
    refine Wd.callV (n := 1) (As := [.int x1]) (rest := []) (rv := some .null) hC hW 0 (kX7_treeIn c3) (by decide) rfl rfl q510 q512 qs32 q1 q513 ⟨rfl, rfl⟩ ⟨by decide +kernel, by decide +kernel, by decide +kernel⟩ ⟨Nat.le_of_ble_eq_true rfl, Nat.le_of_ble_eq_true rfl⟩ ⟨Nat.zero_le _, Nat.zero_le _⟩ rfl hl.1 rfl (st2 := [.null]) rfl (Nat.le_of_ble_eq_true rfl) dX7_joins_2 (fun H locs hW => ?_)
    refine lv_astoreN (lv' := [(4, .null), (0, .ref (ad 0)), (1, .int x1), (2, .int x2), (3, .int x3)]) hx hb dX7_joins_5 hl (by decide) rfl (fun ls hl => ?_)
    refine lv_aloadN hx hb dX7_joins_7 (lv_at hl 0 rfl) ?_
    refine lv_ifnullN (tgt := 35) hx hb dX7_joins_9 (by decide) ?_
    refine lv_iconst (v := (-1)) hx hb dX7_joins_35 (by decide) ?_
    obtain ⟨rfl, rfl⟩ := sp hf
    exact Wd.iret hC hW dX7_joins_36
  | some q2 =>
    have hf := oc_s hf
    have hq2 := treeIn_lt c3
    refine Wd.callV (n := 1) (As := [.int x1]) (rest := []) (rv := some (.ref (ad (52 + 2 * q2)))) hC hW 0 (kX7_treeIn c3) (by decide) rfl rfl q510 q512 qs32 q1 q513 ⟨rfl, rfl⟩ ⟨by decide +kernel, by decide +kernel, by decide +kernel⟩ ⟨Nat.le_of_ble_eq_true rfl, Nat.le_of_ble_eq_true rfl⟩ ⟨Nat.zero_le _, Nat.zero_le _⟩ rfl hl.1 rfl (st2 := [.ref (ad (52 + 2 * q2))]) rfl (Nat.le_of_ble_eq_true rfl) dX7_joins_2 (fun H locs hW => ?_)
    refine lv_astore (lv' := [(4, .ref (ad (52 + 2 * q2))), (0, .ref (ad 0)), (1, .int x1), (2, .int x2), (3, .int x3)]) hx hb dX7_joins_5 hl (by decide) rfl (fun ls hl => ?_)
    refine lv_aload hx hb dX7_joins_7 (lv_at hl 0 rfl) ?_
    refine lv_ifnull hx hb dX7_joins_9 ?_
    refine lv_aload hx hb dX7_joins_12 (lv_at hl 0 rfl) ?_
    refine lv_iload_n hx hb dX7_joins_14 rfl (lv_at hl 3 rfl) ?_
    obtain ⟨r4, s5, c6, hf⟩ := bd_some hf
    refine Wd.callVN (n := 1) (As := [.int x2]) (rest := []) (rv := some (.int r4)) hC hW (52 + 2 * q2) (kX6_has hq2 c6) (Tr.b hq2) (Tr.o hq2) rfl q527 q529 qs33 q7 q530 ⟨rfl, rfl⟩ ⟨by decide +kernel, by decide +kernel, by decide +kernel⟩ ⟨Nat.le_of_ble_eq_true rfl, Nat.le_of_ble_eq_true rfl⟩ ⟨Nat.zero_le _, Nat.zero_le _⟩ rfl hl.1 rfl (st2 := [.int r4]) rfl (Nat.le_of_ble_eq_true rfl) dX7_joins_15 (fun H locs hW => ?_)
    refine lv_if_eq (tgt := 35) hx hb dX7_joins_18 (by decide) (fun h7 => ?_) (fun h7 => ?_)
    · have hf := it_t h7 hf
      refine lv_iconst (v := (-1)) hx hb dX7_joins_35 (by decide) ?_
      obtain ⟨rfl, rfl⟩ := sp hf
      exact Wd.iret hC hW dX7_joins_36
    · have hf := it_f h7 hf
      refine lv_aload hx hb dX7_joins_21 (lv_at hl 0 rfl) ?_
      refine lv_iload_n hx hb dX7_joins_23 rfl (lv_at hl 4 rfl) ?_
      obtain ⟨r8, s9, c10, hf⟩ := bd_some hf
      refine Wd.callVN (n := 1) (As := [.int x3]) (rest := []) (rv := some (.int r8)) hC hW (52 + 2 * q2) (kX6_has hq2 c10) (Tr.b hq2) (Tr.o hq2) rfl q527 q529 qs33 q7 q530 ⟨rfl, rfl⟩ ⟨by decide +kernel, by decide +kernel, by decide +kernel⟩ ⟨Nat.le_of_ble_eq_true rfl, Nat.le_of_ble_eq_true rfl⟩ ⟨Nat.zero_le _, Nat.zero_le _⟩ rfl hl.1 rfl (st2 := [.int r8]) rfl (Nat.le_of_ble_eq_true rfl) dX7_joins_24 (fun H locs hW => ?_)
      refine lv_if_eq (tgt := 35) hx hb dX7_joins_27 (by decide) (fun h11 => ?_) (fun h11 => ?_)
      · have hf := it_t h11 hf
        refine lv_iconst (v := (-1)) hx hb dX7_joins_35 (by decide) ?_
        obtain ⟨rfl, rfl⟩ := sp hf
        exact Wd.iret hC hW dX7_joins_36
      · have hf := it_f h11 hf
        refine lv_iload_n hx hb dX7_joins_30 rfl (lv_at hl 3 rfl) ?_
        refine lv_iload_n hx hb dX7_joins_31 rfl (lv_at hl 4 rfl) ?_
        refine lv_icmp_ne (tgt := 37) hx hb dX7_joins_32 (by decide) (fun h12 => ?_) (fun h12 => ?_)
        · have hf := it_f h12 hf
          refine lv_aload hx hb dX7_joins_37 (lv_at hl 0 rfl) ?_
          refine gfX7_155 hC hW (52 + 2 * q2) (Tr.b hq2) (Tr.o hq2) (q := (28 + 6 * q2)) rfl dX7_joins_39 ?_
          refine lv_iconst (v := 1) hx hb dX7_joins_42 (by decide) ?_
          refine lv_iload_n hx hb dX7_joins_43 rfl (lv_at hl 3 rfl) ?_
          refine lv_ishl hx hb dX7_joins_44 ?_
          refine lv_iconst (v := 1) hx hb dX7_joins_45 (by decide) ?_
          refine lv_iload_n hx hb dX7_joins_46 rfl (lv_at hl 4 rfl) ?_
          refine lv_ishl hx hb dX7_joins_47 ?_
          refine lv_ior hx hb dX7_joins_48 ?_
          obtain ⟨r13, s14, c15, hf⟩ := bd_some hf
          refine Wd.callVN (n := 1) (As := [.int (((1 : Int32) <<< (x2 &&& 31)) ||| ((1 : Int32) <<< (x3 &&& 31)))]) (rest := []) (rv := some (.int r13)) hC hW (28 + 6 * q2) (kX4_firstWithAll (Tr.s hq2) c15) (St.b0 (Tr.s hq2)) (St.o (Tr.s hq2)) rfl q531 q533 qs34 q6 q534 ⟨rfl, rfl⟩ ⟨by decide +kernel, by decide +kernel, by decide +kernel⟩ ⟨Nat.le_of_ble_eq_true rfl, Nat.le_of_ble_eq_true rfl⟩ ⟨Nat.zero_le _, Nat.zero_le _⟩ rfl hl.1 rfl (st2 := [.int r13]) rfl (Nat.le_of_ble_eq_true rfl) dX7_joins_49 (fun H locs hW => ?_)
          obtain ⟨rfl, rfl⟩ := sp hf
          exact Wd.iret hC hW dX7_joins_52
        · have hf := it_t h12 hf
          refine lv_iconst (v := (-1)) hx hb dX7_joins_35 (by decide) ?_
          obtain ⟨rfl, rfl⟩ := sp hf
          exact Wd.iret hC hW dX7_joins_36
abbrev rmX4_isLike : Room := { frames := 0, cells := 0, slots := 0, locals := 0 }
def fX4_isLike_15 (N : Nat) (a : Nat) (a2 : Nat) : Nat → Int32 → St → Option (Int32 × St)
  | 0, _, _ => none
  | n + 1, x2, σ => if (σ.1 a 0) ≤ x2 then some ((1 : Int32), σ) else gd (ib x2 19) (gd (ib x2 19) (if (σ.1 (a + 1) x2.toNatClampNeg) = (σ.1 (a2 + 1) x2.toNatClampNeg) then gd (ib x2 19) (gd (ib x2 19) (if (σ.1 (a + 2) x2.toNatClampNeg) = (σ.1 (a2 + 2) x2.toNatClampNeg) then gd (ib x2 19) (gd (ib x2 19) (if (lg_cmp (σ.2 (a + 4) x2.toNatClampNeg) (σ.2 (a2 + 4) x2.toNatClampNeg)) = 0 then gd (ib x2 19) (gd (ib x2 19) (if (lg_cmp (σ.2 (a + 5) x2.toNatClampNeg) (σ.2 (a2 + 5) x2.toNatClampNeg)) = 0 then nx (x2 + (1 : Int32)) (fun v14 => ((fX4_isLike_15 N a a2 n) v14 σ)) else some ((0 : Int32), σ))) else some ((0 : Int32), σ))) else some ((0 : Int32), σ))) else some ((0 : Int32), σ)))
set_option maxHeartbeats 4000000 in
set_option maxRecDepth 100000 in
theorem wX4_isLike_15 (hC : Cx RX4 cX4_isLike 3 (some .boolean) D cA p s m args meth c) {N : Nat} {a : Nat} {a2 : Nat} (ha : isSt a) (ha2 : isSt a2) {r : Int32} {σ' : St} : ∀ (n : Nat) (x2 : Int32) (σ : St) (H : Heap) (locs : List Loc) (ls : Array Slot), fX4_isLike_15 N a a2 n x2 σ = some (r, σ') → Wd kdX 140 D cA ad s σ H locs → lv_has ls 3 [(0, .ref (ad a)), (1, .ref (ad a2)), (2, .int x2)] → W p l e rmX4_isLike s m args below meth c H locs 0 0 (EndW kdX 140 D cA ad below args s (some (.int r)) σ') (F0 m 15 ls []) := by
  have hx := hC.1
  have hb := hC.2.1
  have hown := hC.2.2.2.1
  have hts := hC.2.2.2.2.1
  intro n
  induction n with
  | zero =>
    intro x2 σ H locs ls hf
    rw [fX4_isLike_15] at hf
    cases hf
  | succ n ih =>
    intro x2 σ H locs ls hf hW hl
    rw [fX4_isLike_15] at hf
    refine lv_iload_n hx hb dX4_isLike_15 rfl (lv_at hl 2 rfl) ?_
    refine lv_aload_n hx hb dX4_isLike_16 rfl (lv_at hl 0 rfl) ?_
    refine gfX4_28 hC hW a (St.b0 ha) (St.o ha) rfl dX4_isLike_17 ?_
    refine lv_icmp_ge (tgt := 93) hx hb dX4_isLike_20 (by decide) (fun h1 => ?_) (fun h1 => ?_)
    · have hf := it_t h1 hf
      refine lv_iconst (v := 1) hx hb dX4_isLike_93 (by decide) ?_
      obtain ⟨rfl, rfl⟩ := sp hf
      exact Wd.zret hC hW (Or.inr rfl) dX4_isLike_94
    · have hf := it_f h1 hf
      refine lv_aload_n hx hb dX4_isLike_23 rfl (lv_at hl 0 rfl) ?_
      refine gfX4_9 hC hW a (St.b0 ha) (St.o ha) (q := (a + 1)) rfl dX4_isLike_24 ?_
      refine lv_iload_n hx hb dX4_isLike_27 rfl (lv_at hl 2 rfl) ?_
      obtain ⟨h2, hf⟩ := gd_some hf
      refine Wd.iald hC hW (a + 1) (St.b ha 1 (by decide)) (St.a1 ha) h2 dX4_isLike_28 ?_
      refine lv_aload_n hx hb dX4_isLike_29 rfl (lv_at hl 1 rfl) ?_
      refine gfX4_9 hC hW a2 (St.b0 ha2) (St.o ha2) (q := (a2 + 1)) rfl dX4_isLike_30 ?_
      refine lv_iload_n hx hb dX4_isLike_33 rfl (lv_at hl 2 rfl) ?_
      obtain ⟨h3, hf⟩ := gd_some hf
      refine Wd.iald hC hW (a2 + 1) (St.b ha2 1 (by decide)) (St.a1 ha2) h3 dX4_isLike_34 ?_
      refine lv_icmp_ne (tgt := 85) hx hb dX4_isLike_35 (by decide) (fun h4 => ?_) (fun h4 => ?_)
      · have hf := it_f h4 hf
        refine lv_iconst (v := 0) hx hb dX4_isLike_85 (by decide) ?_
        obtain ⟨rfl, rfl⟩ := sp hf
        exact Wd.zret hC hW (Or.inl rfl) dX4_isLike_86
      · have hf := it_t h4 hf
        refine lv_aload_n hx hb dX4_isLike_38 rfl (lv_at hl 0 rfl) ?_
        refine gfX4_15 hC hW a (St.b0 ha) (St.o ha) (q := (a + 2)) rfl dX4_isLike_39 ?_
        refine lv_iload_n hx hb dX4_isLike_42 rfl (lv_at hl 2 rfl) ?_
        obtain ⟨h5, hf⟩ := gd_some hf
        refine Wd.iald hC hW (a + 2) (St.b ha 2 (by decide)) (St.a2 ha) h5 dX4_isLike_43 ?_
        refine lv_aload_n hx hb dX4_isLike_44 rfl (lv_at hl 1 rfl) ?_
        refine gfX4_15 hC hW a2 (St.b0 ha2) (St.o ha2) (q := (a2 + 2)) rfl dX4_isLike_45 ?_
        refine lv_iload_n hx hb dX4_isLike_48 rfl (lv_at hl 2 rfl) ?_
        obtain ⟨h6, hf⟩ := gd_some hf
        refine Wd.iald hC hW (a2 + 2) (St.b ha2 2 (by decide)) (St.a2 ha2) h6 dX4_isLike_49 ?_
        refine lv_icmp_ne (tgt := 85) hx hb dX4_isLike_50 (by decide) (fun h7 => ?_) (fun h7 => ?_)
        · have hf := it_f h7 hf
          refine lv_iconst (v := 0) hx hb dX4_isLike_85 (by decide) ?_
          obtain ⟨rfl, rfl⟩ := sp hf
          exact Wd.zret hC hW (Or.inl rfl) dX4_isLike_86
        · have hf := it_t h7 hf
          refine lv_aload_n hx hb dX4_isLike_53 rfl (lv_at hl 0 rfl) ?_
          refine gfX4_21 hC hW a (St.b0 ha) (St.o ha) (q := (a + 4)) rfl dX4_isLike_54 ?_
          refine lv_iload_n hx hb dX4_isLike_57 rfl (lv_at hl 2 rfl) ?_
          obtain ⟨h8, hf⟩ := gd_some hf
          refine Wd.lald hC hW (a + 4) (St.b ha 4 (by decide)) (St.a4 ha) h8 dX4_isLike_58 ?_
          refine lv_aload_n hx hb dX4_isLike_59 rfl (lv_at hl 1 rfl) ?_
          refine gfX4_21 hC hW a2 (St.b0 ha2) (St.o ha2) (q := (a2 + 4)) rfl dX4_isLike_60 ?_
          refine lv_iload_n hx hb dX4_isLike_63 rfl (lv_at hl 2 rfl) ?_
          obtain ⟨h9, hf⟩ := gd_some hf
          refine Wd.lald hC hW (a2 + 4) (St.b ha2 4 (by decide)) (St.a4 ha2) h9 dX4_isLike_64 ?_
          refine W.lcmp hx hb dX4_isLike_65 ?_
          refine lv_if_ne (tgt := 85) hx hb dX4_isLike_66 (by decide) (fun h10 => ?_) (fun h10 => ?_)
          · have hf := it_f h10 hf
            refine lv_iconst (v := 0) hx hb dX4_isLike_85 (by decide) ?_
            obtain ⟨rfl, rfl⟩ := sp hf
            exact Wd.zret hC hW (Or.inl rfl) dX4_isLike_86
          · have hf := it_t h10 hf
            refine lv_aload_n hx hb dX4_isLike_69 rfl (lv_at hl 0 rfl) ?_
            refine gfX4_25 hC hW a (St.b0 ha) (St.o ha) (q := (a + 5)) rfl dX4_isLike_70 ?_
            refine lv_iload_n hx hb dX4_isLike_73 rfl (lv_at hl 2 rfl) ?_
            obtain ⟨h11, hf⟩ := gd_some hf
            refine Wd.lald hC hW (a + 5) (St.b ha 5 (by decide)) (St.a5 ha) h11 dX4_isLike_74 ?_
            refine lv_aload_n hx hb dX4_isLike_75 rfl (lv_at hl 1 rfl) ?_
            refine gfX4_25 hC hW a2 (St.b0 ha2) (St.o ha2) (q := (a2 + 5)) rfl dX4_isLike_76 ?_
            refine lv_iload_n hx hb dX4_isLike_79 rfl (lv_at hl 2 rfl) ?_
            obtain ⟨h12, hf⟩ := gd_some hf
            refine Wd.lald hC hW (a2 + 5) (St.b ha2 5 (by decide)) (St.a5 ha2) h12 dX4_isLike_80 ?_
            refine W.lcmp hx hb dX4_isLike_81 ?_
            refine lv_if_eq (tgt := 87) hx hb dX4_isLike_82 (by decide) (fun h13 => ?_) (fun h13 => ?_)
            · have hf := it_t h13 hf
              obtain ⟨v14, ev14⟩ : ∃ y : Int32, y = x2 + (1 : Int32) := ⟨_, rfl⟩
              have hf := nx_at ev14 hf
              refine lv_iinc (v := v14) (lv' := [(2, .int v14), (0, .ref (ad a)), (1, .ref (ad a2))]) hx hb dX4_isLike_87 hl (k := 2) rfl (by rw [ev14]; rfl) (by decide) rfl (fun ls hl => ?_)
              refine lv_goto (tgt := 15) hx hb dX4_isLike_90 (by decide) ?_
              exact ih _ _ _ _ _ hf hW (lv_sub hl [1, 2, 0] rfl)
            · have hf := it_f h13 hf
              refine lv_iconst (v := 0) hx hb dX4_isLike_85 (by decide) ?_
              obtain ⟨rfl, rfl⟩ := sp hf
              exact Wd.zret hC hW (Or.inl rfl) dX4_isLike_86
def fX4_isLike (N : Nat) (a : Nat) (a2 : Nat) (σ : St) : Option (Int32 × St) := if (σ.1 a 0) = (σ.1 a2 0) then (fX4_isLike_15 N a a2 N (0 : Int32) σ) else some ((0 : Int32), σ)
set_option maxHeartbeats 4000000 in
set_option maxRecDepth 100000 in
theorem kX4_isLike {l : Launch} {D : va_G} {cA : Nat → ClassId} {ad : Nat → Nat} {N : Nat} {a : Nat} {a2 : Nat} (ha : isSt a) (ha2 : isSt a2) {σ : St} {r : Int32} {σ' : St} (hf : fX4_isLike N a a2 σ = some (r, σ')) : MW kdX 140 l D cA ad ⟨RX4, "isLike", "(LDendroDesk$Steps;)Z"⟩ cX4_isLike 3 (some .boolean) rmX4_isLike [.ref (ad a), .ref (ad a2)] σ (some (.int r)) σ' := by
  refine MW.of (by decide) (Nat.le_of_ble_eq_true rfl) ?_
  intro p e s m args below meth c ls hC hW hl
  have hx := hC.1
  have hb := hC.2.1
  have hown := hC.2.2.2.1
  have hts := hC.2.2.2.2.1
  have hl : lv_has ls 3 [(0, .ref (ad a)), (1, .ref (ad a2))] := hl
  unfold fX4_isLike at hf
  refine lv_aload_n hx hb dX4_isLike_0 rfl (lv_at hl 0 rfl) ?_
  refine gfX4_28 hC hW a (St.b0 ha) (St.o ha) rfl dX4_isLike_1 ?_
  refine lv_aload_n hx hb dX4_isLike_4 rfl (lv_at hl 1 rfl) ?_
  refine gfX4_28 hC hW a2 (St.b0 ha2) (St.o ha2) rfl dX4_isLike_5 ?_
  refine lv_icmp_eq (tgt := 13) hx hb dX4_isLike_8 (by decide) (fun h1 => ?_) (fun h1 => ?_)
  · have hf := it_t h1 hf
    refine lv_iconst (v := 0) hx hb dX4_isLike_13 (by decide) ?_
    refine lv_istore_n (lv' := [(2, .int (0 : Int32)), (0, .ref (ad a)), (1, .ref (ad a2))]) hx hb dX4_isLike_14 rfl hl (by decide) rfl (fun ls hl => ?_)
    exact wX4_isLike_15 hC ha ha2 N _ _ _ _ _ hf hW (lv_sub hl [1, 2, 0] rfl)
  · have hf := it_f h1 hf
    refine lv_iconst (v := 0) hx hb dX4_isLike_11 (by decide) ?_
    obtain ⟨rfl, rfl⟩ := sp hf
    exact Wd.zret hC hW (Or.inl rfl) dX4_isLike_12
abbrev rmX7_same : Room := { frames := 1, cells := 0, slots := 0, locals := 22 }
def fX7_same (N : Nat) (x1 : Int32) (x2 : Int32) (σ : St) : Option (Int32 × St) := bd (fX7_treeIn N x1 σ) (fun r1 s2 => oc r1 (bd (fX7_treeIn N x2 s2) (fun r4 s5 => oc r4 (some ((0 : Int32), s5)) (fun q8 => some ((0 : Int32), s5)))) (fun q2 => bd (fX7_treeIn N x2 s2) (fun r7 s8 => oc r7 (some ((0 : Int32), s8)) (fun q8 => if (s8.1 (52 + 2 * q2) 2) = (s8.1 (52 + 2 * q8) 2) then bd (fX4_isLike N (28 + 6 * q2) (28 + 6 * q8) s8) (fun r11 s12 => if r11 = 0 then some ((0 : Int32), s12) else some ((1 : Int32), s12)) else some ((0 : Int32), s8)))))
set_option maxHeartbeats 4000000 in
set_option maxRecDepth 100000 in
theorem kX7_same {l : Launch} {D : va_G} {cA : Nat → ClassId} {ad : Nat → Nat} {N : Nat} {x1 : Int32} {x2 : Int32} {σ : St} {r : Int32} {σ' : St} (hf : fX7_same N x1 x2 σ = some (r, σ')) : MW kdX 140 l D cA ad ⟨RX7, "same", "(II)Z"⟩ cX7_same 5 (some .boolean) rmX7_same [.ref (ad 0), .int x1, .int x2] σ (some (.int r)) σ' := by
  refine MW.of (by decide) (Nat.le_of_ble_eq_true rfl) ?_
  intro p e s m args below meth c ls hC hW hl
  have hx := hC.1
  have hb := hC.2.1
  have hown := hC.2.2.2.1
  have hts := hC.2.2.2.2.1
  have hl : lv_has ls 5 [(0, .ref (ad 0)), (1, .int x1), (2, .int x2)] := hl
  unfold fX7_same at hf
  refine lv_aload_n hx hb dX7_same_0 rfl (lv_at hl 0 rfl) ?_
  refine lv_iload_n hx hb dX7_same_1 rfl (lv_at hl 1 rfl) ?_
  obtain ⟨r1, s2, c3, hf⟩ := bd_some hf
  cases r1 with
  | none =>
    have hf := oc_n hf
    refine Wd.callV (n := 1) (As := [.int x1]) (rest := []) (rv := some .null) hC hW 0 (kX7_treeIn c3) (by decide) rfl rfl q510 q512 qs32 q1 q513 ⟨rfl, rfl⟩ ⟨by decide +kernel, by decide +kernel, by decide +kernel⟩ ⟨Nat.le_of_ble_eq_true rfl, Nat.le_of_ble_eq_true rfl⟩ ⟨Nat.zero_le _, Nat.zero_le _⟩ rfl hl.1 rfl (st2 := [.null]) rfl (Nat.le_of_ble_eq_true rfl) dX7_same_2 (fun H locs hW => ?_)
    refine lv_astore_nN (lv' := [(3, .null), (0, .ref (ad 0)), (1, .int x1), (2, .int x2)]) hx hb dX7_same_5 rfl hl (by decide) rfl (fun ls hl => ?_)
    refine lv_aload_n hx hb dX7_same_6 rfl (lv_at hl 1 rfl) ?_
    refine lv_iload_n hx hb dX7_same_7 rfl (lv_at hl 3 rfl) ?_
    obtain ⟨r4, s5, c6, hf⟩ := bd_some hf
    cases r4 with
    | none =>
      have hf := oc_n hf
      refine Wd.callV (n := 1) (As := [.int x2]) (rest := []) (rv := some .null) hC hW 0 (kX7_treeIn c6) (by decide) rfl rfl q510 q512 qs32 q1 q513 ⟨rfl, rfl⟩ ⟨by decide +kernel, by decide +kernel, by decide +kernel⟩ ⟨Nat.le_of_ble_eq_true rfl, Nat.le_of_ble_eq_true rfl⟩ ⟨Nat.zero_le _, Nat.zero_le _⟩ rfl hl.1 rfl (st2 := [.null]) rfl (Nat.le_of_ble_eq_true rfl) dX7_same_8 (fun H locs hW => ?_)
      refine lv_astoreN (lv' := [(4, .null), (3, .null), (0, .ref (ad 0)), (1, .int x1), (2, .int x2)]) hx hb dX7_same_11 hl (by decide) rfl (fun ls hl => ?_)
      refine lv_aload_nN hx hb dX7_same_13 rfl (lv_at hl 1 rfl) ?_
      refine lv_ifnullN (tgt := 22) hx hb dX7_same_14 (by decide) ?_
      refine lv_iconst (v := 0) hx hb dX7_same_22 (by decide) ?_
      obtain ⟨rfl, rfl⟩ := sp hf
      exact Wd.zret hC hW (Or.inl rfl) dX7_same_23
    | some q8 =>
      have hf := oc_s hf
      have hq8 := treeIn_lt c6
      refine Wd.callV (n := 1) (As := [.int x2]) (rest := []) (rv := some (.ref (ad (52 + 2 * q8)))) hC hW 0 (kX7_treeIn c6) (by decide) rfl rfl q510 q512 qs32 q1 q513 ⟨rfl, rfl⟩ ⟨by decide +kernel, by decide +kernel, by decide +kernel⟩ ⟨Nat.le_of_ble_eq_true rfl, Nat.le_of_ble_eq_true rfl⟩ ⟨Nat.zero_le _, Nat.zero_le _⟩ rfl hl.1 rfl (st2 := [.ref (ad (52 + 2 * q8))]) rfl (Nat.le_of_ble_eq_true rfl) dX7_same_8 (fun H locs hW => ?_)
      refine lv_astore (lv' := [(4, .ref (ad (52 + 2 * q8))), (3, .null), (0, .ref (ad 0)), (1, .int x1), (2, .int x2)]) hx hb dX7_same_11 hl (by decide) rfl (fun ls hl => ?_)
      refine lv_aload_nN hx hb dX7_same_13 rfl (lv_at hl 1 rfl) ?_
      refine lv_ifnullN (tgt := 22) hx hb dX7_same_14 (by decide) ?_
      refine lv_iconst (v := 0) hx hb dX7_same_22 (by decide) ?_
      obtain ⟨rfl, rfl⟩ := sp hf
      exact Wd.zret hC hW (Or.inl rfl) dX7_same_23
  | some q2 =>
    have hf := oc_s hf
    have hq2 := treeIn_lt c3
    refine Wd.callV (n := 1) (As := [.int x1]) (rest := []) (rv := some (.ref (ad (52 + 2 * q2)))) hC hW 0 (kX7_treeIn c3) (by decide) rfl rfl q510 q512 qs32 q1 q513 ⟨rfl, rfl⟩ ⟨by decide +kernel, by decide +kernel, by decide +kernel⟩ ⟨Nat.le_of_ble_eq_true rfl, Nat.le_of_ble_eq_true rfl⟩ ⟨Nat.zero_le _, Nat.zero_le _⟩ rfl hl.1 rfl (st2 := [.ref (ad (52 + 2 * q2))]) rfl (Nat.le_of_ble_eq_true rfl) dX7_same_2 (fun H locs hW => ?_)
    refine lv_astore_n (lv' := [(3, .ref (ad (52 + 2 * q2))), (0, .ref (ad 0)), (1, .int x1), (2, .int x2)]) hx hb dX7_same_5 rfl hl (by decide) rfl (fun ls hl => ?_)
    refine lv_aload_n hx hb dX7_same_6 rfl (lv_at hl 1 rfl) ?_
    refine lv_iload_n hx hb dX7_same_7 rfl (lv_at hl 3 rfl) ?_
    obtain ⟨r7, s8, c9, hf⟩ := bd_some hf
    cases r7 with
    | none =>
      have hf := oc_n hf
      refine Wd.callV (n := 1) (As := [.int x2]) (rest := []) (rv := some .null) hC hW 0 (kX7_treeIn c9) (by decide) rfl rfl q510 q512 qs32 q1 q513 ⟨rfl, rfl⟩ ⟨by decide +kernel, by decide +kernel, by decide +kernel⟩ ⟨Nat.le_of_ble_eq_true rfl, Nat.le_of_ble_eq_true rfl⟩ ⟨Nat.zero_le _, Nat.zero_le _⟩ rfl hl.1 rfl (st2 := [.null]) rfl (Nat.le_of_ble_eq_true rfl) dX7_same_8 (fun H locs hW => ?_)
      refine lv_astoreN (lv' := [(4, .null), (3, .ref (ad (52 + 2 * q2))), (0, .ref (ad 0)), (1, .int x1), (2, .int x2)]) hx hb dX7_same_11 hl (by decide) rfl (fun ls hl => ?_)
      refine lv_aload_n hx hb dX7_same_13 rfl (lv_at hl 1 rfl) ?_
      refine lv_ifnull hx hb dX7_same_14 ?_
      refine lv_aloadN hx hb dX7_same_17 (lv_at hl 0 rfl) ?_
      refine lv_ifnonnullN hx hb dX7_same_19 ?_
      refine lv_iconst (v := 0) hx hb dX7_same_22 (by decide) ?_
      obtain ⟨rfl, rfl⟩ := sp hf
      exact Wd.zret hC hW (Or.inl rfl) dX7_same_23
    | some q8 =>
      have hf := oc_s hf
      have hq8 := treeIn_lt c9
      refine Wd.callV (n := 1) (As := [.int x2]) (rest := []) (rv := some (.ref (ad (52 + 2 * q8)))) hC hW 0 (kX7_treeIn c9) (by decide) rfl rfl q510 q512 qs32 q1 q513 ⟨rfl, rfl⟩ ⟨by decide +kernel, by decide +kernel, by decide +kernel⟩ ⟨Nat.le_of_ble_eq_true rfl, Nat.le_of_ble_eq_true rfl⟩ ⟨Nat.zero_le _, Nat.zero_le _⟩ rfl hl.1 rfl (st2 := [.ref (ad (52 + 2 * q8))]) rfl (Nat.le_of_ble_eq_true rfl) dX7_same_8 (fun H locs hW => ?_)
      refine lv_astore (lv' := [(4, .ref (ad (52 + 2 * q8))), (3, .ref (ad (52 + 2 * q2))), (0, .ref (ad 0)), (1, .int x1), (2, .int x2)]) hx hb dX7_same_11 hl (by decide) rfl (fun ls hl => ?_)
      refine lv_aload_n hx hb dX7_same_13 rfl (lv_at hl 1 rfl) ?_
      refine lv_ifnull hx hb dX7_same_14 ?_
      refine lv_aload hx hb dX7_same_17 (lv_at hl 0 rfl) ?_
      refine lv_ifnonnull (tgt := 24) hx hb dX7_same_19 (by decide) ?_
      refine lv_aload_n hx hb dX7_same_24 rfl (lv_at hl 1 rfl) ?_
      refine gfX7_165 hC hW (52 + 2 * q2) (Tr.b hq2) (Tr.o hq2) rfl dX7_same_25 ?_
      refine lv_aload hx hb dX7_same_28 (lv_at hl 0 rfl) ?_
      refine gfX7_165 hC hW (52 + 2 * q8) (Tr.b hq8) (Tr.o hq8) rfl dX7_same_30 ?_
      refine lv_icmp_ne (tgt := 55) hx hb dX7_same_33 (by decide) (fun h10 => ?_) (fun h10 => ?_)
      · have hf := it_f h10 hf
        refine lv_iconst (v := 0) hx hb dX7_same_55 (by decide) ?_
        obtain ⟨rfl, rfl⟩ := sp hf
        exact Wd.zret hC hW (Or.inl rfl) dX7_same_56
      · have hf := it_t h10 hf
        refine lv_aload_n hx hb dX7_same_36 rfl (lv_at hl 1 rfl) ?_
        refine gfX7_155 hC hW (52 + 2 * q2) (Tr.b hq2) (Tr.o hq2) (q := (28 + 6 * q2)) rfl dX7_same_37 ?_
        refine lv_aload hx hb dX7_same_40 (lv_at hl 0 rfl) ?_
        refine gfX7_155 hC hW (52 + 2 * q8) (Tr.b hq8) (Tr.o hq8) (q := (28 + 6 * q8)) rfl dX7_same_42 ?_
        obtain ⟨r11, s12, c13, hf⟩ := bd_some hf
        refine Wd.callVN (n := 1) (As := [.ref (ad (28 + 6 * q8))]) (rest := []) (rv := some (.int r11)) hC hW (28 + 6 * q2) (kX4_isLike (Tr.s hq2) (Tr.s hq8) c13) (St.b0 (Tr.s hq2)) (St.o (Tr.s hq2)) rfl q539 q541 qs35 q6 q542 ⟨rfl, rfl⟩ ⟨by decide +kernel, by decide +kernel, by decide +kernel⟩ ⟨Nat.le_of_ble_eq_true rfl, Nat.le_of_ble_eq_true rfl⟩ ⟨Nat.zero_le _, Nat.zero_le _⟩ rfl hl.1 rfl (st2 := [.int r11]) rfl (Nat.le_of_ble_eq_true rfl) dX7_same_45 (fun H locs hW => ?_)
        refine lv_if_eq (tgt := 55) hx hb dX7_same_48 (by decide) (fun h14 => ?_) (fun h14 => ?_)
        · have hf := it_t h14 hf
          refine lv_iconst (v := 0) hx hb dX7_same_55 (by decide) ?_
          obtain ⟨rfl, rfl⟩ := sp hf
          exact Wd.zret hC hW (Or.inl rfl) dX7_same_56
        · have hf := it_f h14 hf
          refine lv_iconst (v := 1) hx hb dX7_same_51 (by decide) ?_
          refine lv_goto (tgt := 56) hx hb dX7_same_52 (by decide) ?_
          obtain ⟨rfl, rfl⟩ := sp hf
          exact Wd.zret hC hW (Or.inr rfl) dX7_same_56
abbrev rmX6_lastCluster : Room := { frames := 0, cells := 0, slots := 0, locals := 0 }
def fX6_lastCluster (N : Nat) (q : Nat) (σ : St) : Option (Int32 × St) := some ((((σ.1 (52 + 2 * q) 2) + (σ.1 (28 + 6 * q) 0)) - (1 : Int32)), σ)
set_option maxHeartbeats 4000000 in
set_option maxRecDepth 100000 in
theorem kX6_lastCluster {l : Launch} {D : va_G} {cA : Nat → ClassId} {ad : Nat → Nat} {N : Nat} {q : Nat} (hq : q < 4) {σ : St} {r : Int32} {σ' : St} (hf : fX6_lastCluster N q σ = some (r, σ')) : MW kdX 140 l D cA ad ⟨RX6, "lastCluster", "()I"⟩ cX6_lastCluster 1 (some .int) rmX6_lastCluster [.ref (ad (52 + 2 * q))] σ (some (.int r)) σ' := by
  refine MW.of (by decide) (Nat.le_of_ble_eq_true rfl) ?_
  intro p e s m args below meth c ls hC hW hl
  have hx := hC.1
  have hb := hC.2.1
  have hown := hC.2.2.2.1
  have hts := hC.2.2.2.2.1
  have hl : lv_has ls 1 [(0, .ref (ad (52 + 2 * q)))] := hl
  unfold fX6_lastCluster at hf
  refine lv_aload_n hx hb dX6_lastCluster_0 rfl (lv_at hl 0 rfl) ?_
  refine gfX6_22 hC hW (52 + 2 * q) (Tr.b hq) (Tr.o hq) rfl dX6_lastCluster_1 ?_
  refine lv_aload_n hx hb dX6_lastCluster_4 rfl (lv_at hl 0 rfl) ?_
  refine gfX6_12 hC hW (52 + 2 * q) (Tr.b hq) (Tr.o hq) (q := (28 + 6 * q)) rfl dX6_lastCluster_5 ?_
  refine gfX6_26 hC hW (28 + 6 * q) (St.b0 (Tr.s hq)) (St.o (Tr.s hq)) rfl dX6_lastCluster_8 ?_
  refine lv_iadd hx hb dX6_lastCluster_11 ?_
  refine lv_iconst (v := 1) hx hb dX6_lastCluster_12 (by decide) ?_
  refine lv_isub hx hb dX6_lastCluster_13 ?_
  obtain ⟨rfl, rfl⟩ := sp hf
  exact Wd.iret hC hW dX6_lastCluster_14
abbrev rmX6_bitsOf : Room := { frames := 1, cells := 0, slots := 0, locals := 21 }
def fX6_bitsOf (N : Nat) (q : Nat) (x1 : Int32) (σ : St) : Option (Int32 × St) := if (σ.1 (52 + 2 * q) 2) ≤ x1 then bd (fX4_has N (28 + 6 * q) (x1 - (σ.1 (52 + 2 * q) 2)) σ) (fun r2 s3 => if r2 = 0 then some ((0 : Int32), s3) else gd (ib (x1 - (s3.1 (52 + 2 * q) 2)) 19) (some ((s3.1 ((28 + 6 * q) + 3) (x1 - (s3.1 (52 + 2 * q) 2)).toNatClampNeg), s3))) else some (((1 : Int32) <<< (x1 &&& 31)), σ)
set_option maxHeartbeats 4000000 in
set_option maxRecDepth 100000 in
theorem kX6_bitsOf {l : Launch} {D : va_G} {cA : Nat → ClassId} {ad : Nat → Nat} {N : Nat} {q : Nat} (hq : q < 4) {x1 : Int32} {σ : St} {r : Int32} {σ' : St} (hf : fX6_bitsOf N q x1 σ = some (r, σ')) : MW kdX 140 l D cA ad ⟨RX6, "bitsOf", "(I)I"⟩ cX6_bitsOf 2 (some .int) rmX6_bitsOf [.ref (ad (52 + 2 * q)), .int x1] σ (some (.int r)) σ' := by
  refine MW.of (by decide) (Nat.le_of_ble_eq_true rfl) ?_
  intro p e s m args below meth c ls hC hW hl
  have hx := hC.1
  have hb := hC.2.1
  have hown := hC.2.2.2.1
  have hts := hC.2.2.2.2.1
  have hl : lv_has ls 2 [(0, .ref (ad (52 + 2 * q))), (1, .int x1)] := hl
  unfold fX6_bitsOf at hf
  refine lv_iload_n hx hb dX6_bitsOf_0 rfl (lv_at hl 1 rfl) ?_
  refine lv_aload_n hx hb dX6_bitsOf_1 rfl (lv_at hl 0 rfl) ?_
  refine gfX6_22 hC hW (52 + 2 * q) (Tr.b hq) (Tr.o hq) rfl dX6_bitsOf_2 ?_
  refine lv_icmp_ge (tgt := 12) hx hb dX6_bitsOf_5 (by decide) (fun h1 => ?_) (fun h1 => ?_)
  · have hf := it_t h1 hf
    refine lv_aload_n hx hb dX6_bitsOf_12 rfl (lv_at hl 0 rfl) ?_
    refine gfX6_12 hC hW (52 + 2 * q) (Tr.b hq) (Tr.o hq) (q := (28 + 6 * q)) rfl dX6_bitsOf_13 ?_
    refine lv_iload_n hx hb dX6_bitsOf_16 rfl (lv_at hl 1 rfl) ?_
    refine lv_aload_n hx hb dX6_bitsOf_17 rfl (lv_at hl 0 rfl) ?_
    refine gfX6_22 hC hW (52 + 2 * q) (Tr.b hq) (Tr.o hq) rfl dX6_bitsOf_18 ?_
    refine lv_isub hx hb dX6_bitsOf_21 ?_
    obtain ⟨r2, s3, c4, hf⟩ := bd_some hf
    refine Wd.callVN (n := 1) (As := [.int (x1 - (σ.1 (52 + 2 * q) 2))]) (rest := []) (rv := some (.int r2)) hC hW (28 + 6 * q) (kX4_has (Tr.s hq) c4) (St.b0 (Tr.s hq)) (St.o (Tr.s hq)) rfl q566 q500 qs31 q6 q501 ⟨rfl, rfl⟩ ⟨by decide +kernel, by decide +kernel, by decide +kernel⟩ ⟨Nat.le_of_ble_eq_true rfl, Nat.le_of_ble_eq_true rfl⟩ ⟨Nat.zero_le _, Nat.zero_le _⟩ rfl hl.1 rfl (st2 := [.int r2]) rfl (Nat.le_of_ble_eq_true rfl) dX6_bitsOf_22 (fun H locs hW => ?_)
    refine lv_if_eq (tgt := 45) hx hb dX6_bitsOf_25 (by decide) (fun h5 => ?_) (fun h5 => ?_)
    · have hf := it_t h5 hf
      refine lv_iconst (v := 0) hx hb dX6_bitsOf_45 (by decide) ?_
      obtain ⟨rfl, rfl⟩ := sp hf
      exact Wd.iret hC hW dX6_bitsOf_46
    · have hf := it_f h5 hf
      refine lv_aload_n hx hb dX6_bitsOf_28 rfl (lv_at hl 0 rfl) ?_
      refine gfX6_12 hC hW (52 + 2 * q) (Tr.b hq) (Tr.o hq) (q := (28 + 6 * q)) rfl dX6_bitsOf_29 ?_
      refine gfX6_33 hC hW (28 + 6 * q) (St.b0 (Tr.s hq)) (St.o (Tr.s hq)) (q := ((28 + 6 * q) + 3)) rfl dX6_bitsOf_32 ?_
      refine lv_iload_n hx hb dX6_bitsOf_35 rfl (lv_at hl 1 rfl) ?_
      refine lv_aload_n hx hb dX6_bitsOf_36 rfl (lv_at hl 0 rfl) ?_
      refine gfX6_22 hC hW (52 + 2 * q) (Tr.b hq) (Tr.o hq) rfl dX6_bitsOf_37 ?_
      refine lv_isub hx hb dX6_bitsOf_40 ?_
      obtain ⟨h6, hf⟩ := gd_some hf
      refine Wd.iald hC hW ((28 + 6 * q) + 3) (St.b (Tr.s hq) 3 (by decide)) (St.a3 (Tr.s hq)) h6 dX6_bitsOf_41 ?_
      refine lv_goto (tgt := 46) hx hb dX6_bitsOf_42 (by decide) ?_
      obtain ⟨rfl, rfl⟩ := sp hf
      exact Wd.iret hC hW dX6_bitsOf_46
  · have hf := it_f h1 hf
    refine lv_iconst (v := 1) hx hb dX6_bitsOf_8 (by decide) ?_
    refine lv_iload_n hx hb dX6_bitsOf_9 rfl (lv_at hl 1 rfl) ?_
    refine lv_ishl hx hb dX6_bitsOf_10 ?_
    obtain ⟨rfl, rfl⟩ := sp hf
    exact Wd.iret hC hW dX6_bitsOf_11
abbrev rmX6_isFirstLeading : Room := { frames := 2, cells := 0, slots := 0, locals := 42 }
def fX6_isFirstLeading (N : Nat) (q : Nat) (x1 : Int32) (σ : St) : Option (Int32 × St) := gd (ib x1 19) (bd (fX6_bitsOf N q (σ.1 ((28 + 6 * q) + 1) x1.toNatClampNeg) σ) (fun r2 s3 => gd (ib x1 19) (bd (fX6_bitsOf N q (s3.1 ((28 + 6 * q) + 2) x1.toNatClampNeg) s3) (fun r6 s7 => if (r6 &&& (-r6)) ≤ (r2 &&& (-r2)) then some ((0 : Int32), s7) else some ((1 : Int32), s7)))))
set_option maxHeartbeats 4000000 in
set_option maxRecDepth 100000 in
theorem kX6_isFirstLeading {l : Launch} {D : va_G} {cA : Nat → ClassId} {ad : Nat → Nat} {N : Nat} {q : Nat} (hq : q < 4) {x1 : Int32} {σ : St} {r : Int32} {σ' : St} (hf : fX6_isFirstLeading N q x1 σ = some (r, σ')) : MW kdX 140 l D cA ad ⟨RX6, "isFirstLeading", "(I)Z"⟩ cX6_isFirstLeading 4 (some .boolean) rmX6_isFirstLeading [.ref (ad (52 + 2 * q)), .int x1] σ (some (.int r)) σ' := by
  refine MW.of (by decide) (Nat.le_of_ble_eq_true rfl) ?_
  intro p e s m args below meth c ls hC hW hl
  have hx := hC.1
  have hb := hC.2.1
  have hown := hC.2.2.2.1
  have hts := hC.2.2.2.2.1
  have hl : lv_has ls 4 [(0, .ref (ad (52 + 2 * q))), (1, .int x1)] := hl
  unfold fX6_isFirstLeading at hf
  refine lv_aload_n hx hb dX6_isFirstLeading_0 rfl (lv_at hl 0 rfl) ?_
  refine lv_aload_n hx hb dX6_isFirstLeading_1 rfl (lv_at hl 0 rfl) ?_
  refine gfX6_12 hC hW (52 + 2 * q) (Tr.b hq) (Tr.o hq) (q := (28 + 6 * q)) rfl dX6_isFirstLeading_2 ?_
  refine gfX6_36 hC hW (28 + 6 * q) (St.b0 (Tr.s hq)) (St.o (Tr.s hq)) (q := ((28 + 6 * q) + 1)) rfl dX6_isFirstLeading_5 ?_
  refine lv_iload_n hx hb dX6_isFirstLeading_8 rfl (lv_at hl 1 rfl) ?_
  obtain ⟨h1, hf⟩ := gd_some hf
  refine Wd.iald hC hW ((28 + 6 * q) + 1) (St.b (Tr.s hq) 1 (by decide)) (St.a1 (Tr.s hq)) h1 dX6_isFirstLeading_9 ?_
  obtain ⟨r2, s3, c4, hf⟩ := bd_some hf
  refine Wd.callV (n := 1) (As := [.int (σ.1 ((28 + 6 * q) + 1) x1.toNatClampNeg)]) (rest := []) (rv := some (.int r2)) hC hW (52 + 2 * q) (kX6_bitsOf hq c4) (Tr.b hq) (Tr.o hq) rfl q562 q564 qs39 q7 q565 ⟨rfl, rfl⟩ ⟨by decide +kernel, by decide +kernel, by decide +kernel⟩ ⟨Nat.le_of_ble_eq_true rfl, Nat.le_of_ble_eq_true rfl⟩ ⟨Nat.zero_le _, Nat.zero_le _⟩ rfl hl.1 rfl (st2 := [.int r2]) rfl (Nat.le_of_ble_eq_true rfl) dX6_isFirstLeading_10 (fun H locs hW => ?_)
  refine lv_istore_n (lv' := [(2, .int r2), (0, .ref (ad (52 + 2 * q))), (1, .int x1)]) hx hb dX6_isFirstLeading_13 rfl hl (by decide) rfl (fun ls hl => ?_)
  refine lv_aload_n hx hb dX6_isFirstLeading_14 rfl (lv_at hl 1 rfl) ?_
  refine lv_aload_n hx hb dX6_isFirstLeading_15 rfl (lv_at hl 1 rfl) ?_
  refine gfX6_12 hC hW (52 + 2 * q) (Tr.b hq) (Tr.o hq) (q := (28 + 6 * q)) rfl dX6_isFirstLeading_16 ?_
  refine gfX6_43 hC hW (28 + 6 * q) (St.b0 (Tr.s hq)) (St.o (Tr.s hq)) (q := ((28 + 6 * q) + 2)) rfl dX6_isFirstLeading_19 ?_
  refine lv_iload_n hx hb dX6_isFirstLeading_22 rfl (lv_at hl 2 rfl) ?_
  obtain ⟨h5, hf⟩ := gd_some hf
  refine Wd.iald hC hW ((28 + 6 * q) + 2) (St.b (Tr.s hq) 2 (by decide)) (St.a2 (Tr.s hq)) h5 dX6_isFirstLeading_23 ?_
  obtain ⟨r6, s7, c8, hf⟩ := bd_some hf
  refine Wd.callV (n := 1) (As := [.int (s3.1 ((28 + 6 * q) + 2) x1.toNatClampNeg)]) (rest := []) (rv := some (.int r6)) hC hW (52 + 2 * q) (kX6_bitsOf hq c8) (Tr.b hq) (Tr.o hq) rfl q562 q564 qs39 q7 q565 ⟨rfl, rfl⟩ ⟨by decide +kernel, by decide +kernel, by decide +kernel⟩ ⟨Nat.le_of_ble_eq_true rfl, Nat.le_of_ble_eq_true rfl⟩ ⟨Nat.zero_le _, Nat.zero_le _⟩ rfl hl.1 rfl (st2 := [.int r6]) rfl (Nat.le_of_ble_eq_true rfl) dX6_isFirstLeading_24 (fun H locs hW => ?_)
  refine lv_istore_n (lv' := [(3, .int r6), (2, .int r2), (0, .ref (ad (52 + 2 * q))), (1, .int x1)]) hx hb dX6_isFirstLeading_27 rfl hl (by decide) rfl (fun ls hl => ?_)
  refine lv_iload_n hx hb dX6_isFirstLeading_28 rfl (lv_at hl 1 rfl) ?_
  refine lv_iload_n hx hb dX6_isFirstLeading_29 rfl (lv_at hl 1 rfl) ?_
  refine lv_ineg hx hb dX6_isFirstLeading_30 ?_
  refine lv_iand hx hb dX6_isFirstLeading_31 ?_
  refine lv_iload_n hx hb dX6_isFirstLeading_32 rfl (lv_at hl 0 rfl) ?_
  refine lv_iload_n hx hb dX6_isFirstLeading_33 rfl (lv_at hl 0 rfl) ?_
  refine lv_ineg hx hb dX6_isFirstLeading_34 ?_
  refine lv_iand hx hb dX6_isFirstLeading_35 ?_
  refine lv_icmp_ge (tgt := 43) hx hb dX6_isFirstLeading_36 (by decide) (fun h9 => ?_) (fun h9 => ?_)
  · have hf := it_t h9 hf
    refine lv_iconst (v := 0) hx hb dX6_isFirstLeading_43 (by decide) ?_
    obtain ⟨rfl, rfl⟩ := sp hf
    exact Wd.zret hC hW (Or.inl rfl) dX6_isFirstLeading_44
  · have hf := it_f h9 hf
    refine lv_iconst (v := 1) hx hb dX6_isFirstLeading_39 (by decide) ?_
    refine lv_goto (tgt := 44) hx hb dX6_isFirstLeading_40 (by decide) ?_
    obtain ⟨rfl, rfl⟩ := sp hf
    exact Wd.zret hC hW (Or.inr rfl) dX6_isFirstLeading_44
abbrev rmX6_leading : Room := { frames := 3, cells := 0, slots := 0, locals := 65 }
def fX6_leading (N : Nat) (q : Nat) (x1 : Int32) (σ : St) : Option (Int32 × St) := bd (fX6_isFirstLeading N q x1 σ) (fun r1 s2 => if r1 = 0 then gd (ib x1 19) (some ((s2.1 ((28 + 6 * q) + 2) x1.toNatClampNeg), s2)) else gd (ib x1 19) (some ((s2.1 ((28 + 6 * q) + 1) x1.toNatClampNeg), s2)))
set_option maxHeartbeats 4000000 in
set_option maxRecDepth 100000 in
theorem kX6_leading {l : Launch} {D : va_G} {cA : Nat → ClassId} {ad : Nat → Nat} {N : Nat} {q : Nat} (hq : q < 4) {x1 : Int32} {σ : St} {r : Int32} {σ' : St} (hf : fX6_leading N q x1 σ = some (r, σ')) : MW kdX 140 l D cA ad ⟨RX6, "leading", "(I)I"⟩ cX6_leading 2 (some .int) rmX6_leading [.ref (ad (52 + 2 * q)), .int x1] σ (some (.int r)) σ' := by
  refine MW.of (by decide) (Nat.le_of_ble_eq_true rfl) ?_
  intro p e s m args below meth c ls hC hW hl
  have hx := hC.1
  have hb := hC.2.1
  have hown := hC.2.2.2.1
  have hts := hC.2.2.2.2.1
  have hl : lv_has ls 2 [(0, .ref (ad (52 + 2 * q))), (1, .int x1)] := hl
  unfold fX6_leading at hf
  refine lv_aload_n hx hb dX6_leading_0 rfl (lv_at hl 0 rfl) ?_
  refine lv_iload_n hx hb dX6_leading_1 rfl (lv_at hl 1 rfl) ?_
  obtain ⟨r1, s2, c3, hf⟩ := bd_some hf
  refine Wd.callV (n := 1) (As := [.int x1]) (rest := []) (rv := some (.int r1)) hC hW (52 + 2 * q) (kX6_isFirstLeading hq c3) (Tr.b hq) (Tr.o hq) rfl q558 q560 qs38 q7 q561 ⟨rfl, rfl⟩ ⟨by decide +kernel, by decide +kernel, by decide +kernel⟩ ⟨Nat.le_of_ble_eq_true rfl, Nat.le_of_ble_eq_true rfl⟩ ⟨Nat.zero_le _, Nat.zero_le _⟩ rfl hl.1 rfl (st2 := [.int r1]) rfl (Nat.le_of_ble_eq_true rfl) dX6_leading_2 (fun H locs hW => ?_)
  refine lv_if_eq (tgt := 20) hx hb dX6_leading_5 (by decide) (fun h4 => ?_) (fun h4 => ?_)
  · have hf := it_t h4 hf
    refine lv_aload_n hx hb dX6_leading_20 rfl (lv_at hl 0 rfl) ?_
    refine gfX6_12 hC hW (52 + 2 * q) (Tr.b hq) (Tr.o hq) (q := (28 + 6 * q)) rfl dX6_leading_21 ?_
    refine gfX6_43 hC hW (28 + 6 * q) (St.b0 (Tr.s hq)) (St.o (Tr.s hq)) (q := ((28 + 6 * q) + 2)) rfl dX6_leading_24 ?_
    refine lv_iload_n hx hb dX6_leading_27 rfl (lv_at hl 1 rfl) ?_
    obtain ⟨h5, hf⟩ := gd_some hf
    refine Wd.iald hC hW ((28 + 6 * q) + 2) (St.b (Tr.s hq) 2 (by decide)) (St.a2 (Tr.s hq)) h5 dX6_leading_28 ?_
    obtain ⟨rfl, rfl⟩ := sp hf
    exact Wd.iret hC hW dX6_leading_29
  · have hf := it_f h4 hf
    refine lv_aload_n hx hb dX6_leading_8 rfl (lv_at hl 0 rfl) ?_
    refine gfX6_12 hC hW (52 + 2 * q) (Tr.b hq) (Tr.o hq) (q := (28 + 6 * q)) rfl dX6_leading_9 ?_
    refine gfX6_36 hC hW (28 + 6 * q) (St.b0 (Tr.s hq)) (St.o (Tr.s hq)) (q := ((28 + 6 * q) + 1)) rfl dX6_leading_12 ?_
    refine lv_iload_n hx hb dX6_leading_15 rfl (lv_at hl 1 rfl) ?_
    obtain ⟨h6, hf⟩ := gd_some hf
    refine Wd.iald hC hW ((28 + 6 * q) + 1) (St.b (Tr.s hq) 1 (by decide)) (St.a1 (Tr.s hq)) h6 dX6_leading_16 ?_
    refine lv_goto (tgt := 29) hx hb dX6_leading_17 (by decide) ?_
    obtain ⟨rfl, rfl⟩ := sp hf
    exact Wd.iret hC hW dX6_leading_29
abbrev rmX6_trailing : Room := { frames := 3, cells := 0, slots := 0, locals := 65 }
def fX6_trailing (N : Nat) (q : Nat) (x1 : Int32) (σ : St) : Option (Int32 × St) := bd (fX6_isFirstLeading N q x1 σ) (fun r1 s2 => if r1 = 0 then gd (ib x1 19) (some ((s2.1 ((28 + 6 * q) + 1) x1.toNatClampNeg), s2)) else gd (ib x1 19) (some ((s2.1 ((28 + 6 * q) + 2) x1.toNatClampNeg), s2)))
set_option maxHeartbeats 4000000 in
set_option maxRecDepth 100000 in
theorem kX6_trailing {l : Launch} {D : va_G} {cA : Nat → ClassId} {ad : Nat → Nat} {N : Nat} {q : Nat} (hq : q < 4) {x1 : Int32} {σ : St} {r : Int32} {σ' : St} (hf : fX6_trailing N q x1 σ = some (r, σ')) : MW kdX 140 l D cA ad ⟨RX6, "trailing", "(I)I"⟩ cX6_trailing 2 (some .int) rmX6_trailing [.ref (ad (52 + 2 * q)), .int x1] σ (some (.int r)) σ' := by
  refine MW.of (by decide) (Nat.le_of_ble_eq_true rfl) ?_
  intro p e s m args below meth c ls hC hW hl
  have hx := hC.1
  have hb := hC.2.1
  have hown := hC.2.2.2.1
  have hts := hC.2.2.2.2.1
  have hl : lv_has ls 2 [(0, .ref (ad (52 + 2 * q))), (1, .int x1)] := hl
  unfold fX6_trailing at hf
  refine lv_aload_n hx hb dX6_trailing_0 rfl (lv_at hl 0 rfl) ?_
  refine lv_iload_n hx hb dX6_trailing_1 rfl (lv_at hl 1 rfl) ?_
  obtain ⟨r1, s2, c3, hf⟩ := bd_some hf
  refine Wd.callV (n := 1) (As := [.int x1]) (rest := []) (rv := some (.int r1)) hC hW (52 + 2 * q) (kX6_isFirstLeading hq c3) (Tr.b hq) (Tr.o hq) rfl q558 q560 qs38 q7 q561 ⟨rfl, rfl⟩ ⟨by decide +kernel, by decide +kernel, by decide +kernel⟩ ⟨Nat.le_of_ble_eq_true rfl, Nat.le_of_ble_eq_true rfl⟩ ⟨Nat.zero_le _, Nat.zero_le _⟩ rfl hl.1 rfl (st2 := [.int r1]) rfl (Nat.le_of_ble_eq_true rfl) dX6_trailing_2 (fun H locs hW => ?_)
  refine lv_if_eq (tgt := 20) hx hb dX6_trailing_5 (by decide) (fun h4 => ?_) (fun h4 => ?_)
  · have hf := it_t h4 hf
    refine lv_aload_n hx hb dX6_trailing_20 rfl (lv_at hl 0 rfl) ?_
    refine gfX6_12 hC hW (52 + 2 * q) (Tr.b hq) (Tr.o hq) (q := (28 + 6 * q)) rfl dX6_trailing_21 ?_
    refine gfX6_36 hC hW (28 + 6 * q) (St.b0 (Tr.s hq)) (St.o (Tr.s hq)) (q := ((28 + 6 * q) + 1)) rfl dX6_trailing_24 ?_
    refine lv_iload_n hx hb dX6_trailing_27 rfl (lv_at hl 1 rfl) ?_
    obtain ⟨h5, hf⟩ := gd_some hf
    refine Wd.iald hC hW ((28 + 6 * q) + 1) (St.b (Tr.s hq) 1 (by decide)) (St.a1 (Tr.s hq)) h5 dX6_trailing_28 ?_
    obtain ⟨rfl, rfl⟩ := sp hf
    exact Wd.iret hC hW dX6_trailing_29
  · have hf := it_f h4 hf
    refine lv_aload_n hx hb dX6_trailing_8 rfl (lv_at hl 0 rfl) ?_
    refine gfX6_12 hC hW (52 + 2 * q) (Tr.b hq) (Tr.o hq) (q := (28 + 6 * q)) rfl dX6_trailing_9 ?_
    refine gfX6_43 hC hW (28 + 6 * q) (St.b0 (Tr.s hq)) (St.o (Tr.s hq)) (q := ((28 + 6 * q) + 2)) rfl dX6_trailing_12 ?_
    refine lv_iload_n hx hb dX6_trailing_15 rfl (lv_at hl 1 rfl) ?_
    obtain ⟨h6, hf⟩ := gd_some hf
    refine Wd.iald hC hW ((28 + 6 * q) + 2) (St.b (Tr.s hq) 2 (by decide)) (St.a2 (Tr.s hq)) h6 dX6_trailing_16 ?_
    refine lv_goto (tgt := 29) hx hb dX6_trailing_17 (by decide) ?_
    obtain ⟨rfl, rfl⟩ := sp hf
    exact Wd.iret hC hW dX6_trailing_29
abbrev rmwcF : Nat := 4
abbrev rmwcL : Nat := 86
abbrev rmwc (dp : Nat) : Room := { frames := rmwcF + dp, cells := 0, slots := 0, locals := rmwcL + dp * 24 }
def fX7_writeCluster (N : Nat) : Nat → Nat → Int32 → Int32 → St → Option (Unit × St)
  | 0, _, _, _, _ => none
  | dp + 1, q, x2, x3, σ => if (σ.1 (52 + 2 * q) 2) ≤ x2 then nx (x2 - (σ.1 (52 + 2 * q) 2)) (fun v2 => if (19 : Int32) < x3 then some ((), σ) else bd (fX4_has N (28 + 6 * q) v2 σ) (fun r4 s5 => if r4 = 0 then some ((), s5) else bd (fX0_add N 7 (40 : Int32) s5) (fun r8 s9 => bd (fX6_leading N q v2 s9) (fun r11 s12 => bd (fX7_writeCluster N dp q r11 (x3 + (1 : Int32)) s12) (fun r14 s15 => bd (fX0_add N 7 (44 : Int32) s15) (fun r17 s18 => bd (fX6_trailing N q v2 s18) (fun r20 s21 => bd (fX7_writeCluster N dp q r20 (x3 + (1 : Int32)) s21) (fun r23 s24 => bd (fX0_add N 7 (41 : Int32) s24) (fun r26 s27 => bd (fX0_add N 7 (58 : Int32) s27) (fun r29 s30 => gd (ib v2 19) (bd (fX0_addNumber N 7 (s30.2 ((28 + 6 * q) + 4) v2.toNatClampNeg) s30) (fun r33 s34 => gd (ib v2 19) (if (lg_cmp (s34.2 ((28 + 6 * q) + 5) v2.toNatClampNeg) (1 : Int64)) = 0 then some ((), s34) else bd (fX0_add N 7 (47 : Int32) s34) (fun r38 s39 => gd (ib v2 19) (bd (fX0_addNumber N 7 (s39.2 ((28 + 6 * q) + 5) v2.toNatClampNeg) s39) (fun r42 s43 => some ((), s43))))))))))))))))) else bd (fX0_addNumber N 7 x2.toInt64 σ) (fun r45 s46 => some ((), s46))
theorem rmwc_step (dp : Nat) : (rmwc dp).frames + 1 ≤ (rmwc (dp + 1)).frames ∧ 8 + (5 + 11) + (rmwc dp).locals ≤ (rmwc (dp + 1)).locals := by
  refine ⟨Nat.le_refl _, ?_⟩
  show 8 + (5 + 11) + (rmwcL + dp * 24) ≤ rmwcL + (dp + 1) * 24
  omega
set_option maxHeartbeats 4000000 in
set_option maxRecDepth 100000 in
theorem kX7_writeCluster {l : Launch} {D : va_G} {cA : Nat → ClassId} {ad : Nat → Nat} {N : Nat} : ∀ (dp : Nat) {q : Nat} (hq : q < 4) {x2 x3 : Int32} {σ : St} {r : Unit} {σ' : St} (hf : fX7_writeCluster N dp q x2 x3 σ = some (r, σ')), MW kdX 140 l D cA ad ⟨RX7, "writeCluster", "(LDendroDesk$Bytes;LDendroDesk$Tree;II)V"⟩ cX7_writeCluster 5 none (rmwc dp) [.ref (ad 7), .ref (ad (52 + 2 * q)), .int x2, .int x3] σ none σ' := by
  intro dp
  induction dp with
  | zero =>
    intro q hq x2 x3 σ r σ' hf
    rw [fX7_writeCluster] at hf
    cases hf
  | succ dp ih =>
    intro q hq x2 x3 σ r σ' hf
    rw [fX7_writeCluster] at hf
    have hroom := rmwc_step dp
    refine MW.of (by decide) (Nat.le_of_ble_eq_true rfl) ?_
    intro p e s m args below meth c ls hC hW hl
    have hx := hC.1
    have hb := hC.2.1
    have hown := hC.2.2.2.1
    have hts := hC.2.2.2.2.1
    have hl : lv_has ls 5 [(0, .ref (ad 7)), (1, .ref (ad (52 + 2 * q))), (2, .int x2), (3, .int x3)] := hl
    refine lv_iload_n hx hb dX7_writeCluster_0 rfl (lv_at hl 2 rfl) ?_
    refine lv_aload_n hx hb dX7_writeCluster_1 rfl (lv_at hl 1 rfl) ?_
    refine gfX7_165 hC hW (52 + 2 * q) (Tr.b hq) (Tr.o hq) rfl dX7_writeCluster_2 ?_
    refine lv_icmp_ge (tgt := 15) hx hb dX7_writeCluster_5 (by decide) (fun h1 => ?_) (fun h1 => ?_)
    · have hf := it_t h1 hf
      refine lv_iload_n hx hb dX7_writeCluster_15 rfl (lv_at hl 2 rfl) ?_
      refine lv_aload_n hx hb dX7_writeCluster_16 rfl (lv_at hl 1 rfl) ?_
      refine gfX7_165 hC hW (52 + 2 * q) (Tr.b hq) (Tr.o hq) rfl dX7_writeCluster_17 ?_
      refine lv_isub hx hb dX7_writeCluster_20 ?_
      refine lv_topi (fun v2 ev2 => ?_)
      have hf := nx_at ev2 hf
      refine lv_istore (lv' := [(4, .int v2), (0, .ref (ad 7)), (1, .ref (ad (52 + 2 * q))), (2, .int x2), (3, .int x3)]) hx hb dX7_writeCluster_21 hl (by decide) rfl (fun ls hl => ?_)
      refine lv_iload_n hx hb dX7_writeCluster_23 rfl (lv_at hl 4 rfl) ?_
      refine lv_bipush (v := 19) hx hb dX7_writeCluster_24 (by decide) ?_
      refine lv_icmp_gt (tgt := 41) hx hb dX7_writeCluster_26 (by decide) (fun h3 => ?_) (fun h3 => ?_)
      · have hf := it_t h3 hf
        obtain ⟨-, rfl⟩ := sp hf
        exact Wd.vret hC hW dX7_writeCluster_41
      · have hf := it_f h3 hf
        refine lv_aload_n hx hb dX7_writeCluster_29 rfl (lv_at hl 2 rfl) ?_
        refine gfX7_155 hC hW (52 + 2 * q) (Tr.b hq) (Tr.o hq) (q := (28 + 6 * q)) rfl dX7_writeCluster_30 ?_
        refine lv_iload hx hb dX7_writeCluster_33 (lv_at hl 0 rfl) ?_
        obtain ⟨r4, s5, c6, hf⟩ := bd_some hf
        refine Wd.callVN (n := 1) (As := [.int v2]) (rest := []) (rv := some (.int r4)) hC hW (28 + 6 * q) (kX4_has (Tr.s hq) c6) (St.b0 (Tr.s hq)) (St.o (Tr.s hq)) rfl q518 q500 qs31 q6 q501 ⟨rfl, rfl⟩ ⟨by decide +kernel, by decide +kernel, by decide +kernel⟩ ⟨Nat.le_trans (Nat.le_of_ble_eq_true rfl) (Nat.le_add_right rmwcF _), Nat.le_trans (Nat.le_of_ble_eq_true rfl) (Nat.le_add_right rmwcL _)⟩ ⟨Nat.zero_le _, Nat.zero_le _⟩ rfl hl.1 rfl (st2 := [.int r4]) rfl (Nat.le_of_ble_eq_true rfl) dX7_writeCluster_35 (fun H locs hW => ?_)
        refine lv_if_ne (tgt := 42) hx hb dX7_writeCluster_38 (by decide) (fun h7 => ?_) (fun h7 => ?_)
        · have hf := it_f h7 hf
          refine lv_aload_n hx hb dX7_writeCluster_42 rfl (lv_at hl 1 rfl) ?_
          refine lv_bipush (v := 40) hx hb dX7_writeCluster_43 (by decide) ?_
          obtain ⟨r8, s9, c10, hf⟩ := bd_some hf
          refine Wd.callVN (n := 1) (As := [.int (40 : Int32)]) (rest := []) (rv := none) hC hW 7 (kX0_add (Or.inr rfl) c10) (by decide) rfl rfl q357 q300 qs5 q3 q301 ⟨rfl, rfl⟩ ⟨by decide +kernel, by decide +kernel, by decide +kernel⟩ ⟨Nat.le_trans (Nat.le_of_ble_eq_true rfl) (Nat.le_add_right rmwcF _), Nat.le_trans (Nat.le_of_ble_eq_true rfl) (Nat.le_add_right rmwcL _)⟩ ⟨Nat.zero_le _, Nat.zero_le _⟩ rfl hl.1 rfl (st2 := []) rfl (Nat.le_of_ble_eq_true rfl) dX7_writeCluster_45 (fun H locs hW => ?_)
          refine lv_aload_n hx hb dX7_writeCluster_48 rfl (lv_at hl 1 rfl) ?_
          refine lv_aload_n hx hb dX7_writeCluster_49 rfl (lv_at hl 2 rfl) ?_
          refine lv_aload_n hx hb dX7_writeCluster_50 rfl (lv_at hl 2 rfl) ?_
          refine lv_iload hx hb dX7_writeCluster_51 (lv_at hl 0 rfl) ?_
          obtain ⟨r11, s12, c13, hf⟩ := bd_some hf
          refine Wd.callVN (n := 1) (As := [.int v2]) (rest := [.ref (ad (52 + 2 * q)), .ref (ad 7)]) (rv := some (.int r11)) hC hW (52 + 2 * q) (kX6_leading hq c13) (Tr.b hq) (Tr.o hq) rfl q554 q556 qs37 q7 q557 ⟨rfl, rfl⟩ ⟨by decide +kernel, by decide +kernel, by decide +kernel⟩ ⟨Nat.le_trans (Nat.le_of_ble_eq_true rfl) (Nat.le_add_right rmwcF _), Nat.le_trans (Nat.le_of_ble_eq_true rfl) (Nat.le_add_right rmwcL _)⟩ ⟨Nat.zero_le _, Nat.zero_le _⟩ rfl hl.1 rfl (st2 := [.int r11, .ref (ad (52 + 2 * q)), .ref (ad 7)]) rfl (Nat.le_of_ble_eq_true rfl) dX7_writeCluster_53 (fun H locs hW => ?_)
          refine lv_iload_n hx hb dX7_writeCluster_56 rfl (lv_at hl 4 rfl) ?_
          refine lv_iconst (v := 1) hx hb dX7_writeCluster_57 (by decide) ?_
          refine lv_iadd hx hb dX7_writeCluster_58 ?_
          obtain ⟨r14, s15, c16, hf⟩ := bd_some hf
          refine Wd.callS (n := 4) (As := [.ref (ad 7), .ref (ad (52 + 2 * q)), .int r11, .int (x3 + (1 : Int32))]) (rest := []) (rv := none) hC hW (ih hq c16) q551 q552 q1 q553 ⟨rfl, rfl⟩ ⟨by decide +kernel, by decide +kernel, by decide +kernel⟩ hroom ⟨Nat.zero_le _, Nat.zero_le _⟩ rfl hl.1 rfl (st2 := []) rfl (Nat.le_of_ble_eq_true rfl) dX7_writeCluster_59 (fun H locs hW => ?_)
          refine lv_aload_n hx hb dX7_writeCluster_62 rfl (lv_at hl 1 rfl) ?_
          refine lv_bipush (v := 44) hx hb dX7_writeCluster_63 (by decide) ?_
          obtain ⟨r17, s18, c19, hf⟩ := bd_some hf
          refine Wd.callVN (n := 1) (As := [.int (44 : Int32)]) (rest := []) (rv := none) hC hW 7 (kX0_add (Or.inr rfl) c19) (by decide) rfl rfl q357 q300 qs5 q3 q301 ⟨rfl, rfl⟩ ⟨by decide +kernel, by decide +kernel, by decide +kernel⟩ ⟨Nat.le_trans (Nat.le_of_ble_eq_true rfl) (Nat.le_add_right rmwcF _), Nat.le_trans (Nat.le_of_ble_eq_true rfl) (Nat.le_add_right rmwcL _)⟩ ⟨Nat.zero_le _, Nat.zero_le _⟩ rfl hl.1 rfl (st2 := []) rfl (Nat.le_of_ble_eq_true rfl) dX7_writeCluster_65 (fun H locs hW => ?_)
          refine lv_aload_n hx hb dX7_writeCluster_68 rfl (lv_at hl 1 rfl) ?_
          refine lv_aload_n hx hb dX7_writeCluster_69 rfl (lv_at hl 2 rfl) ?_
          refine lv_aload_n hx hb dX7_writeCluster_70 rfl (lv_at hl 2 rfl) ?_
          refine lv_iload hx hb dX7_writeCluster_71 (lv_at hl 0 rfl) ?_
          obtain ⟨r20, s21, c22, hf⟩ := bd_some hf
          refine Wd.callVN (n := 1) (As := [.int v2]) (rest := [.ref (ad (52 + 2 * q)), .ref (ad 7)]) (rv := some (.int r20)) hC hW (52 + 2 * q) (kX6_trailing hq c22) (Tr.b hq) (Tr.o hq) rfl q567 q569 qs40 q7 q570 ⟨rfl, rfl⟩ ⟨by decide +kernel, by decide +kernel, by decide +kernel⟩ ⟨Nat.le_trans (Nat.le_of_ble_eq_true rfl) (Nat.le_add_right rmwcF _), Nat.le_trans (Nat.le_of_ble_eq_true rfl) (Nat.le_add_right rmwcL _)⟩ ⟨Nat.zero_le _, Nat.zero_le _⟩ rfl hl.1 rfl (st2 := [.int r20, .ref (ad (52 + 2 * q)), .ref (ad 7)]) rfl (Nat.le_of_ble_eq_true rfl) dX7_writeCluster_73 (fun H locs hW => ?_)
          refine lv_iload_n hx hb dX7_writeCluster_76 rfl (lv_at hl 4 rfl) ?_
          refine lv_iconst (v := 1) hx hb dX7_writeCluster_77 (by decide) ?_
          refine lv_iadd hx hb dX7_writeCluster_78 ?_
          obtain ⟨r23, s24, c25, hf⟩ := bd_some hf
          refine Wd.callS (n := 4) (As := [.ref (ad 7), .ref (ad (52 + 2 * q)), .int r20, .int (x3 + (1 : Int32))]) (rest := []) (rv := none) hC hW (ih hq c25) q551 q552 q1 q553 ⟨rfl, rfl⟩ ⟨by decide +kernel, by decide +kernel, by decide +kernel⟩ hroom ⟨Nat.zero_le _, Nat.zero_le _⟩ rfl hl.1 rfl (st2 := []) rfl (Nat.le_of_ble_eq_true rfl) dX7_writeCluster_79 (fun H locs hW => ?_)
          refine lv_aload_n hx hb dX7_writeCluster_82 rfl (lv_at hl 1 rfl) ?_
          refine lv_bipush (v := 41) hx hb dX7_writeCluster_83 (by decide) ?_
          obtain ⟨r26, s27, c28, hf⟩ := bd_some hf
          refine Wd.callVN (n := 1) (As := [.int (41 : Int32)]) (rest := []) (rv := none) hC hW 7 (kX0_add (Or.inr rfl) c28) (by decide) rfl rfl q357 q300 qs5 q3 q301 ⟨rfl, rfl⟩ ⟨by decide +kernel, by decide +kernel, by decide +kernel⟩ ⟨Nat.le_trans (Nat.le_of_ble_eq_true rfl) (Nat.le_add_right rmwcF _), Nat.le_trans (Nat.le_of_ble_eq_true rfl) (Nat.le_add_right rmwcL _)⟩ ⟨Nat.zero_le _, Nat.zero_le _⟩ rfl hl.1 rfl (st2 := []) rfl (Nat.le_of_ble_eq_true rfl) dX7_writeCluster_85 (fun H locs hW => ?_)
          refine lv_aload_n hx hb dX7_writeCluster_88 rfl (lv_at hl 1 rfl) ?_
          refine lv_bipush (v := 58) hx hb dX7_writeCluster_89 (by decide) ?_
          obtain ⟨r29, s30, c31, hf⟩ := bd_some hf
          refine Wd.callVN (n := 1) (As := [.int (58 : Int32)]) (rest := []) (rv := none) hC hW 7 (kX0_add (Or.inr rfl) c31) (by decide) rfl rfl q357 q300 qs5 q3 q301 ⟨rfl, rfl⟩ ⟨by decide +kernel, by decide +kernel, by decide +kernel⟩ ⟨Nat.le_trans (Nat.le_of_ble_eq_true rfl) (Nat.le_add_right rmwcF _), Nat.le_trans (Nat.le_of_ble_eq_true rfl) (Nat.le_add_right rmwcL _)⟩ ⟨Nat.zero_le _, Nat.zero_le _⟩ rfl hl.1 rfl (st2 := []) rfl (Nat.le_of_ble_eq_true rfl) dX7_writeCluster_91 (fun H locs hW => ?_)
          refine lv_aload_n hx hb dX7_writeCluster_94 rfl (lv_at hl 1 rfl) ?_
          refine lv_aload_n hx hb dX7_writeCluster_95 rfl (lv_at hl 2 rfl) ?_
          refine gfX7_155 hC hW (52 + 2 * q) (Tr.b hq) (Tr.o hq) (q := (28 + 6 * q)) rfl dX7_writeCluster_96 ?_
          refine gfX7_185 hC hW (28 + 6 * q) (St.b0 (Tr.s hq)) (St.o (Tr.s hq)) (q := ((28 + 6 * q) + 4)) rfl dX7_writeCluster_99 ?_
          refine lv_iload hx hb dX7_writeCluster_102 (lv_at hl 0 rfl) ?_
          obtain ⟨h32, hf⟩ := gd_some hf
          refine Wd.lald hC hW ((28 + 6 * q) + 4) (St.b (Tr.s hq) 4 (by decide)) (St.a4 (Tr.s hq)) h32 dX7_writeCluster_104 ?_
          obtain ⟨r33, s34, c35, hf⟩ := bd_some hf
          refine Wd.callVN (n := 1) (As := [.long (s30.2 ((28 + 6 * q) + 4) v2.toNatClampNeg)]) (rest := []) (rv := none) hC hW 7 (kX0_addNumber (Or.inr rfl) c35) (by decide) rfl rfl q352 q354 qs11 q3 q355 ⟨rfl, rfl⟩ ⟨by decide +kernel, by decide +kernel, by decide +kernel⟩ ⟨Nat.le_trans (Nat.le_of_ble_eq_true rfl) (Nat.le_add_right rmwcF _), Nat.le_trans (Nat.le_of_ble_eq_true rfl) (Nat.le_add_right rmwcL _)⟩ ⟨Nat.zero_le _, Nat.zero_le _⟩ rfl hl.1 rfl (st2 := []) rfl (Nat.le_of_ble_eq_true rfl) dX7_writeCluster_105 (fun H locs hW => ?_)
          refine lv_aload_n hx hb dX7_writeCluster_108 rfl (lv_at hl 2 rfl) ?_
          refine gfX7_155 hC hW (52 + 2 * q) (Tr.b hq) (Tr.o hq) (q := (28 + 6 * q)) rfl dX7_writeCluster_109 ?_
          refine gfX7_189 hC hW (28 + 6 * q) (St.b0 (Tr.s hq)) (St.o (Tr.s hq)) (q := ((28 + 6 * q) + 5)) rfl dX7_writeCluster_112 ?_
          refine lv_iload hx hb dX7_writeCluster_115 (lv_at hl 0 rfl) ?_
          obtain ⟨h36, hf⟩ := gd_some hf
          refine Wd.lald hC hW ((28 + 6 * q) + 5) (St.b (Tr.s hq) 5 (by decide)) (St.a5 (Tr.s hq)) h36 dX7_writeCluster_117 ?_
          refine lv_lconst (v := 1) hx hb dX7_writeCluster_118 (by decide) ?_
          refine W.lcmp hx hb dX7_writeCluster_119 ?_
          refine lv_if_eq (tgt := 143) hx hb dX7_writeCluster_120 (by decide) (fun h37 => ?_) (fun h37 => ?_)
          · have hf := it_t h37 hf
            obtain ⟨-, rfl⟩ := sp hf
            exact Wd.vret hC hW dX7_writeCluster_143
          · have hf := it_f h37 hf
            refine lv_aload_n hx hb dX7_writeCluster_123 rfl (lv_at hl 1 rfl) ?_
            refine lv_bipush (v := 47) hx hb dX7_writeCluster_124 (by decide) ?_
            obtain ⟨r38, s39, c40, hf⟩ := bd_some hf
            refine Wd.callVN (n := 1) (As := [.int (47 : Int32)]) (rest := []) (rv := none) hC hW 7 (kX0_add (Or.inr rfl) c40) (by decide) rfl rfl q357 q300 qs5 q3 q301 ⟨rfl, rfl⟩ ⟨by decide +kernel, by decide +kernel, by decide +kernel⟩ ⟨Nat.le_trans (Nat.le_of_ble_eq_true rfl) (Nat.le_add_right rmwcF _), Nat.le_trans (Nat.le_of_ble_eq_true rfl) (Nat.le_add_right rmwcL _)⟩ ⟨Nat.zero_le _, Nat.zero_le _⟩ rfl hl.1 rfl (st2 := []) rfl (Nat.le_of_ble_eq_true rfl) dX7_writeCluster_126 (fun H locs hW => ?_)
            refine lv_aload_n hx hb dX7_writeCluster_129 rfl (lv_at hl 1 rfl) ?_
            refine lv_aload_n hx hb dX7_writeCluster_130 rfl (lv_at hl 2 rfl) ?_
            refine gfX7_155 hC hW (52 + 2 * q) (Tr.b hq) (Tr.o hq) (q := (28 + 6 * q)) rfl dX7_writeCluster_131 ?_
            refine gfX7_189 hC hW (28 + 6 * q) (St.b0 (Tr.s hq)) (St.o (Tr.s hq)) (q := ((28 + 6 * q) + 5)) rfl dX7_writeCluster_134 ?_
            refine lv_iload hx hb dX7_writeCluster_137 (lv_at hl 0 rfl) ?_
            obtain ⟨h41, hf⟩ := gd_some hf
            refine Wd.lald hC hW ((28 + 6 * q) + 5) (St.b (Tr.s hq) 5 (by decide)) (St.a5 (Tr.s hq)) h41 dX7_writeCluster_139 ?_
            obtain ⟨r42, s43, c44, hf⟩ := bd_some hf
            refine Wd.callVN (n := 1) (As := [.long (s39.2 ((28 + 6 * q) + 5) v2.toNatClampNeg)]) (rest := []) (rv := none) hC hW 7 (kX0_addNumber (Or.inr rfl) c44) (by decide) rfl rfl q352 q354 qs11 q3 q355 ⟨rfl, rfl⟩ ⟨by decide +kernel, by decide +kernel, by decide +kernel⟩ ⟨Nat.le_trans (Nat.le_of_ble_eq_true rfl) (Nat.le_add_right rmwcF _), Nat.le_trans (Nat.le_of_ble_eq_true rfl) (Nat.le_add_right rmwcL _)⟩ ⟨Nat.zero_le _, Nat.zero_le _⟩ rfl hl.1 rfl (st2 := []) rfl (Nat.le_of_ble_eq_true rfl) dX7_writeCluster_140 (fun H locs hW => ?_)
            obtain ⟨-, rfl⟩ := sp hf
            exact Wd.vret hC hW dX7_writeCluster_143
        · have hf := it_t h7 hf
          obtain ⟨-, rfl⟩ := sp hf
          exact Wd.vret hC hW dX7_writeCluster_41
    · have hf := it_f h1 hf
      refine lv_aload_n hx hb dX7_writeCluster_8 rfl (lv_at hl 0 rfl) ?_
      refine lv_iload_n hx hb dX7_writeCluster_9 rfl (lv_at hl 2 rfl) ?_
      refine lv_i2l (v := x2.toInt64) hx hb dX7_writeCluster_10 rfl ?_
      obtain ⟨r45, s46, c47, hf⟩ := bd_some hf
      refine Wd.callVN (n := 1) (As := [.long x2.toInt64]) (rest := []) (rv := none) hC hW 7 (kX0_addNumber (Or.inr rfl) c47) (by decide) rfl rfl q352 q354 qs11 q3 q355 ⟨rfl, rfl⟩ ⟨by decide +kernel, by decide +kernel, by decide +kernel⟩ ⟨Nat.le_trans (Nat.le_of_ble_eq_true rfl) (Nat.le_add_right rmwcF _), Nat.le_trans (Nat.le_of_ble_eq_true rfl) (Nat.le_add_right rmwcL _)⟩ ⟨Nat.zero_le _, Nat.zero_le _⟩ rfl hl.1 rfl (st2 := []) rfl (Nat.le_of_ble_eq_true rfl) dX7_writeCluster_11 (fun H locs hW => ?_)
      obtain ⟨-, rfl⟩ := sp hf
      exact Wd.vret hC hW dX7_writeCluster_14
abbrev rmX7_text : Room := { frames := 45, cells := 0, slots := 0, locals := 1070 }
def fX7_text_40 (N : Nat) (σ : St) : Option (Int32 × St) := bd (fX0_add N 7 (59 : Int32) σ) (fun r1 s2 => some ((s2.1 7 1), s2))
set_option maxHeartbeats 4000000 in
set_option maxRecDepth 100000 in
theorem wX7_text_40 (hC : Cx RX7 cX7_text 3 (some .int) D cA p s m args meth c) {N : Nat} {σ : St} {r : Int32} {σ' : St} {H : Heap} {locs : List Loc} {ls : Array Slot} (hf : fX7_text_40 N σ = some (r, σ')) (hW : Wd kdX 140 D cA ad s σ H locs) (hl : lv_has ls 3 [(0, .ref (ad 0))]) : W p l e rmX7_text s m args below meth c H locs 0 0 (EndW kdX 140 D cA ad below args s (some (.int r)) σ') (F0 m 40 ls []) := by
  have hx := hC.1
  have hb := hC.2.1
  have hown := hC.2.2.2.1
  have hts := hC.2.2.2.2.1
  unfold fX7_text_40 at hf
  refine lv_aload_n hx hb dX7_text_40 rfl (lv_at hl 0 rfl) ?_
  refine gfX7_23 hC hW 0 (by decide) rfl (q := 7) rfl dX7_text_41 ?_
  refine lv_bipush (v := 59) hx hb dX7_text_44 (by decide) ?_
  obtain ⟨r1, s2, c3, hf⟩ := bd_some hf
  refine Wd.callVN (n := 1) (As := [.int (59 : Int32)]) (rest := []) (rv := none) hC hW 7 (kX0_add (Or.inr rfl) c3) (by decide) rfl rfl q357 q300 qs5 q3 q301 ⟨rfl, rfl⟩ ⟨by decide +kernel, by decide +kernel, by decide +kernel⟩ ⟨Nat.le_of_ble_eq_true rfl, Nat.le_of_ble_eq_true rfl⟩ ⟨Nat.zero_le _, Nat.zero_le _⟩ rfl hl.1 rfl (st2 := []) rfl (Nat.le_of_ble_eq_true rfl) dX7_text_46 (fun H locs hW => ?_)
  refine lv_aload_n hx hb dX7_text_49 rfl (lv_at hl 0 rfl) ?_
  refine gfX7_23 hC hW 0 (by decide) rfl (q := 7) rfl dX7_text_50 ?_
  refine gfX7_77 hC hW 7 (by decide) rfl rfl dX7_text_53 ?_
  obtain ⟨rfl, rfl⟩ := sp hf
  exact Wd.iret hC hW dX7_text_56
def fX7_text (N : Nat) (x1 : Int32) (σ : St) : Option (Int32 × St) := bd (fX7_treeIn N x1 σ) (fun r1 s2 => oc r1 (some ((-1 : Int32), s2)) (fun q2 => nx (sI s2 7 1 (0 : Int32)) (fun s4 => if (s4.1 (52 + 2 * q2) 2) ≤ 0 then (fX7_text_40 N s4) else bd (fX6_lastCluster N q2 s4) (fun r6 s7 => bd (fX7_writeCluster N 40 q2 r6 (0 : Int32) s7) (fun r9 s10 => (fX7_text_40 N s10))))))
set_option maxHeartbeats 4000000 in
set_option maxRecDepth 100000 in
theorem kX7_text {l : Launch} {D : va_G} {cA : Nat → ClassId} {ad : Nat → Nat} {N : Nat} {x1 : Int32} {σ : St} {r : Int32} {σ' : St} (hf : fX7_text N x1 σ = some (r, σ')) : MW kdX 140 l D cA ad ⟨RX7, "text", "(I)I"⟩ cX7_text 3 (some .int) rmX7_text [.ref (ad 0), .int x1] σ (some (.int r)) σ' := by
  refine MW.of (by decide) (Nat.le_of_ble_eq_true rfl) ?_
  intro p e s m args below meth c ls hC hW hl
  have hx := hC.1
  have hb := hC.2.1
  have hown := hC.2.2.2.1
  have hts := hC.2.2.2.2.1
  have hl : lv_has ls 3 [(0, .ref (ad 0)), (1, .int x1)] := hl
  unfold fX7_text at hf
  refine lv_aload_n hx hb dX7_text_0 rfl (lv_at hl 0 rfl) ?_
  refine lv_iload_n hx hb dX7_text_1 rfl (lv_at hl 1 rfl) ?_
  obtain ⟨r1, s2, c3, hf⟩ := bd_some hf
  cases r1 with
  | none =>
    have hf := oc_n hf
    refine Wd.callV (n := 1) (As := [.int x1]) (rest := []) (rv := some .null) hC hW 0 (kX7_treeIn c3) (by decide) rfl rfl q510 q512 qs32 q1 q513 ⟨rfl, rfl⟩ ⟨by decide +kernel, by decide +kernel, by decide +kernel⟩ ⟨Nat.le_of_ble_eq_true rfl, Nat.le_of_ble_eq_true rfl⟩ ⟨Nat.zero_le _, Nat.zero_le _⟩ rfl hl.1 rfl (st2 := [.null]) rfl (Nat.le_of_ble_eq_true rfl) dX7_text_2 (fun H locs hW => ?_)
    refine lv_astore_nN (lv' := [(2, .null), (0, .ref (ad 0)), (1, .int x1)]) hx hb dX7_text_5 rfl hl (by decide) rfl (fun ls hl => ?_)
    refine lv_aload_nN hx hb dX7_text_6 rfl (lv_at hl 0 rfl) ?_
    refine lv_ifnonnullN hx hb dX7_text_7 ?_
    refine lv_iconst (v := (-1)) hx hb dX7_text_10 (by decide) ?_
    obtain ⟨rfl, rfl⟩ := sp hf
    exact Wd.iret hC hW dX7_text_11
  | some q2 =>
    have hf := oc_s hf
    have hq2 := treeIn_lt c3
    refine Wd.callV (n := 1) (As := [.int x1]) (rest := []) (rv := some (.ref (ad (52 + 2 * q2)))) hC hW 0 (kX7_treeIn c3) (by decide) rfl rfl q510 q512 qs32 q1 q513 ⟨rfl, rfl⟩ ⟨by decide +kernel, by decide +kernel, by decide +kernel⟩ ⟨Nat.le_of_ble_eq_true rfl, Nat.le_of_ble_eq_true rfl⟩ ⟨Nat.zero_le _, Nat.zero_le _⟩ rfl hl.1 rfl (st2 := [.ref (ad (52 + 2 * q2))]) rfl (Nat.le_of_ble_eq_true rfl) dX7_text_2 (fun H locs hW => ?_)
    refine lv_astore_n (lv' := [(2, .ref (ad (52 + 2 * q2))), (0, .ref (ad 0)), (1, .int x1)]) hx hb dX7_text_5 rfl hl (by decide) rfl (fun ls hl => ?_)
    refine lv_aload_n hx hb dX7_text_6 rfl (lv_at hl 0 rfl) ?_
    refine lv_ifnonnull (tgt := 12) hx hb dX7_text_7 (by decide) ?_
    refine lv_aload_n hx hb dX7_text_12 rfl (lv_at hl 1 rfl) ?_
    refine gfX7_23 hC hW 0 (by decide) rfl (q := 7) rfl dX7_text_13 ?_
    refine lv_iconst (v := 0) hx hb dX7_text_16 (by decide) ?_
    refine pgfX7_77 hC hW 7 (by decide) rfl rfl dX7_text_17 (fun H locs hW => ?_)
    obtain ⟨s4, es4, hf⟩ := nx_ex hf
    rw [← es4] at hW
    refine lv_aload_n hx hb dX7_text_20 rfl (lv_at hl 0 rfl) ?_
    refine gfX7_165 hC hW (52 + 2 * q2) (Tr.b hq2) (Tr.o hq2) rfl dX7_text_21 ?_
    refine lv_if_le (tgt := 40) hx hb dX7_text_24 (by decide) (fun h5 => ?_) (fun h5 => ?_)
    · have hf := it_t h5 hf
      exact wX7_text_40 hC hf hW (lv_sub hl [1] rfl)
    · have hf := it_f h5 hf
      refine lv_aload_n hx hb dX7_text_27 rfl (lv_at hl 1 rfl) ?_
      refine gfX7_23 hC hW 0 (by decide) rfl (q := 7) rfl dX7_text_28 ?_
      refine lv_aload_n hx hb dX7_text_31 rfl (lv_at hl 0 rfl) ?_
      refine lv_aload_n hx hb dX7_text_32 rfl (lv_at hl 0 rfl) ?_
      obtain ⟨r6, s7, c8, hf⟩ := bd_some hf
      refine Wd.callVN (n := 0) (As := []) (rest := [.ref (ad (52 + 2 * q2)), .ref (ad 7)]) (rv := some (.int r6)) hC hW (52 + 2 * q2) (kX6_lastCluster hq2 c8) (Tr.b hq2) (Tr.o hq2) rfl q547 q549 qs36 q7 q550 ⟨rfl, rfl⟩ ⟨by decide +kernel, by decide +kernel, by decide +kernel⟩ ⟨Nat.le_of_ble_eq_true rfl, Nat.le_of_ble_eq_true rfl⟩ ⟨Nat.zero_le _, Nat.zero_le _⟩ rfl hl.1 rfl (st2 := [.int r6, .ref (ad (52 + 2 * q2)), .ref (ad 7)]) rfl (Nat.le_of_ble_eq_true rfl) dX7_text_33 (fun H locs hW => ?_)
      refine lv_iconst (v := 0) hx hb dX7_text_36 (by decide) ?_
      obtain ⟨r9, s10, c11, hf⟩ := bd_some hf
      refine Wd.callS (n := 4) (As := [.ref (ad 7), .ref (ad (52 + 2 * q2)), .int r6, .int (0 : Int32)]) (rest := []) (rv := none) hC hW (kX7_writeCluster 40 hq2 c11) q551 q552 q1 q553 ⟨rfl, rfl⟩ ⟨by decide +kernel, by decide +kernel, by decide +kernel⟩ ⟨Nat.le_of_ble_eq_true rfl, Nat.le_of_ble_eq_true rfl⟩ ⟨Nat.zero_le _, Nat.zero_le _⟩ rfl hl.1 rfl (st2 := []) rfl (Nat.le_of_ble_eq_true rfl) dX7_text_37 (fun H locs hW => ?_)
      exact wX7_text_40 hC hf hW (lv_sub hl [1] rfl)
abbrev rmX6_pointInOrder : Room := { frames := 4, cells := 0, slots := 0, locals := 86 }
def fX6_pointInOrder_84 (N : Nat) (q : Nat) (K10 : Int32 → Int32 → Int32 → St → Option (Int32 × St)) (x2 : Int32) (x3 : Int32) (x4 : Int32) (σ : St) : Option (Int32 × St) := nx (x4 + (1 : Int32)) (fun v1 => (K10 x2 x3 v1 σ))
set_option maxHeartbeats 4000000 in
set_option maxRecDepth 100000 in
theorem wX6_pointInOrder_84 (hC : Cx RX6 cX6_pointInOrder 7 (some .int) D cA p s m args meth c) {N : Nat} {q : Nat} (hq : q < 4) {K10 : Int32 → Int32 → Int32 → St → Option (Int32 × St)} {x2 : Int32} {x3 : Int32} {x4 : Int32} {σ : St} {r : Int32} {σ' : St} (hK10 : ∀ (x2 : Int32) (x3 : Int32) (x4 : Int32) (σ : St) (H : Heap) (locs : List Loc) (ls : Array Slot), K10 x2 x3 x4 σ = some (r, σ') → Wd kdX 140 D cA ad s σ H locs → lv_has ls 7 [(0, .ref (ad (52 + 2 * q))), (2, .int x2), (3, .int x3), (4, .int x4)] → W p l e rmX6_pointInOrder s m args below meth c H locs 0 0 (EndW kdX 140 D cA ad below args s (some (.int r)) σ') (F0 m 10 ls [])) {H : Heap} {locs : List Loc} {ls : Array Slot} (hf : fX6_pointInOrder_84 N q K10 x2 x3 x4 σ = some (r, σ')) (hW : Wd kdX 140 D cA ad s σ H locs) (hl : lv_has ls 7 [(0, .ref (ad (52 + 2 * q))), (2, .int x2), (3, .int x3), (4, .int x4)]) : W p l e rmX6_pointInOrder s m args below meth c H locs 0 0 (EndW kdX 140 D cA ad below args s (some (.int r)) σ') (F0 m 84 ls []) := by
  have hx := hC.1
  have hb := hC.2.1
  have hown := hC.2.2.2.1
  have hts := hC.2.2.2.2.1
  unfold fX6_pointInOrder_84 at hf
  obtain ⟨v1, ev1⟩ : ∃ y : Int32, y = x4 + (1 : Int32) := ⟨_, rfl⟩
  have hf := nx_at ev1 hf
  refine lv_iinc (v := v1) (lv' := [(4, .int v1), (0, .ref (ad (52 + 2 * q))), (2, .int x2), (3, .int x3)]) hx hb dX6_pointInOrder_84 hl (k := 3) rfl (by rw [ev1]; rfl) (by decide) rfl (fun ls hl => ?_)
  refine lv_goto (tgt := 10) hx hb dX6_pointInOrder_87 (by decide) ?_
  exact hK10 _ _ _ _ _ _ _ hf hW (lv_sub hl [1, 2, 3, 0] rfl)
def fX6_pointInOrder_10 (N : Nat) (q : Nat) : Nat → Int32 → Int32 → Int32 → St → Option (Int32 × St)
  | 0, _, _, _, _ => none
  | n + 1, x2, x3, x4, σ => if (19 : Int32) ≤ x4 then some (x2, σ) else bd (fX4_has N (28 + 6 * q) (x2 - (σ.1 (52 + 2 * q) 2)) σ) (fun r2 s3 => if r2 = 0 then some (x2, s3) else nx (x2 - (s3.1 (52 + 2 * q) 2)) (fun v6 => bd (fX6_leading N q v6 s3) (fun r7 s8 => bd (fX6_bitsOf N q r7 s8) (fun r10 s11 => bd (fJ6_bitCount_0f7a4 N r10 s11) (fun r13 s14 => if r13 ≤ x3 then nx (x3 - r13) (fun v17 => bd (fX6_trailing N q v6 s14) (fun r18 s19 => (fX6_pointInOrder_84 N q (fX6_pointInOrder_10 N q n) r18 v17 x4 s19))) else bd (fX6_leading N q v6 s14) (fun r21 s22 => (fX6_pointInOrder_84 N q (fX6_pointInOrder_10 N q n) r21 x3 x4 s22)))))))
set_option maxHeartbeats 4000000 in
set_option maxRecDepth 100000 in
theorem wX6_pointInOrder_10 (hC : Cx RX6 cX6_pointInOrder 7 (some .int) D cA p s m args meth c) {N : Nat} {q : Nat} (hq : q < 4) {r : Int32} {σ' : St} : ∀ (n : Nat) (x2 : Int32) (x3 : Int32) (x4 : Int32) (σ : St) (H : Heap) (locs : List Loc) (ls : Array Slot), fX6_pointInOrder_10 N q n x2 x3 x4 σ = some (r, σ') → Wd kdX 140 D cA ad s σ H locs → lv_has ls 7 [(0, .ref (ad (52 + 2 * q))), (2, .int x2), (3, .int x3), (4, .int x4)] → W p l e rmX6_pointInOrder s m args below meth c H locs 0 0 (EndW kdX 140 D cA ad below args s (some (.int r)) σ') (F0 m 10 ls []) := by
  have hx := hC.1
  have hb := hC.2.1
  have hown := hC.2.2.2.1
  have hts := hC.2.2.2.2.1
  intro n
  induction n with
  | zero =>
    intro x2 x3 x4 σ H locs ls hf
    rw [fX6_pointInOrder_10] at hf
    cases hf
  | succ n ih =>
    intro x2 x3 x4 σ H locs ls hf hW hl
    rw [fX6_pointInOrder_10] at hf
    refine lv_iload hx hb dX6_pointInOrder_10 (lv_at hl 3 rfl) ?_
    refine lv_bipush (v := 19) hx hb dX6_pointInOrder_12 (by decide) ?_
    refine lv_icmp_ge (tgt := 90) hx hb dX6_pointInOrder_14 (by decide) (fun h1 => ?_) (fun h1 => ?_)
    · have hf := it_t h1 hf
      refine lv_iload_n hx hb dX6_pointInOrder_90 rfl (lv_at hl 1 rfl) ?_
      obtain ⟨rfl, rfl⟩ := sp hf
      exact Wd.iret hC hW dX6_pointInOrder_91
    · have hf := it_f h1 hf
      refine lv_aload_n hx hb dX6_pointInOrder_17 rfl (lv_at hl 0 rfl) ?_
      refine gfX6_12 hC hW (52 + 2 * q) (Tr.b hq) (Tr.o hq) (q := (28 + 6 * q)) rfl dX6_pointInOrder_18 ?_
      refine lv_iload_n hx hb dX6_pointInOrder_21 rfl (lv_at hl 1 rfl) ?_
      refine lv_aload_n hx hb dX6_pointInOrder_22 rfl (lv_at hl 0 rfl) ?_
      refine gfX6_22 hC hW (52 + 2 * q) (Tr.b hq) (Tr.o hq) rfl dX6_pointInOrder_23 ?_
      refine lv_isub hx hb dX6_pointInOrder_26 ?_
      obtain ⟨r2, s3, c4, hf⟩ := bd_some hf
      refine Wd.callVN (n := 1) (As := [.int (x2 - (σ.1 (52 + 2 * q) 2))]) (rest := []) (rv := some (.int r2)) hC hW (28 + 6 * q) (kX4_has (Tr.s hq) c4) (St.b0 (Tr.s hq)) (St.o (Tr.s hq)) rfl q566 q500 qs31 q6 q501 ⟨rfl, rfl⟩ ⟨by decide +kernel, by decide +kernel, by decide +kernel⟩ ⟨Nat.le_of_ble_eq_true rfl, Nat.le_of_ble_eq_true rfl⟩ ⟨Nat.zero_le _, Nat.zero_le _⟩ rfl hl.1 rfl (st2 := [.int r2]) rfl (Nat.le_of_ble_eq_true rfl) dX6_pointInOrder_27 (fun H locs hW => ?_)
      refine lv_if_eq (tgt := 90) hx hb dX6_pointInOrder_30 (by decide) (fun h5 => ?_) (fun h5 => ?_)
      · have hf := it_t h5 hf
        refine lv_iload_n hx hb dX6_pointInOrder_90 rfl (lv_at hl 1 rfl) ?_
        obtain ⟨rfl, rfl⟩ := sp hf
        exact Wd.iret hC hW dX6_pointInOrder_91
      · have hf := it_f h5 hf
        refine lv_iload_n hx hb dX6_pointInOrder_33 rfl (lv_at hl 1 rfl) ?_
        refine lv_aload_n hx hb dX6_pointInOrder_34 rfl (lv_at hl 0 rfl) ?_
        refine gfX6_22 hC hW (52 + 2 * q) (Tr.b hq) (Tr.o hq) rfl dX6_pointInOrder_35 ?_
        refine lv_isub hx hb dX6_pointInOrder_38 ?_
        refine lv_topi (fun v6 ev6 => ?_)
        have hf := nx_at ev6 hf
        refine lv_istore (lv' := [(5, .int v6), (0, .ref (ad (52 + 2 * q))), (2, .int x2), (3, .int x3), (4, .int x4)]) hx hb dX6_pointInOrder_39 hl (by decide) rfl (fun ls hl => ?_)
        refine lv_aload_n hx hb dX6_pointInOrder_41 rfl (lv_at hl 1 rfl) ?_
        refine lv_aload_n hx hb dX6_pointInOrder_42 rfl (lv_at hl 1 rfl) ?_
        refine lv_iload hx hb dX6_pointInOrder_43 (lv_at hl 0 rfl) ?_
        obtain ⟨r7, s8, c9, hf⟩ := bd_some hf
        refine Wd.callV (n := 1) (As := [.int v6]) (rest := [.ref (ad (52 + 2 * q))]) (rv := some (.int r7)) hC hW (52 + 2 * q) (kX6_leading hq c9) (Tr.b hq) (Tr.o hq) rfl q580 q556 qs37 q7 q557 ⟨rfl, rfl⟩ ⟨by decide +kernel, by decide +kernel, by decide +kernel⟩ ⟨Nat.le_of_ble_eq_true rfl, Nat.le_of_ble_eq_true rfl⟩ ⟨Nat.zero_le _, Nat.zero_le _⟩ rfl hl.1 rfl (st2 := [.int r7, .ref (ad (52 + 2 * q))]) rfl (Nat.le_of_ble_eq_true rfl) dX6_pointInOrder_45 (fun H locs hW => ?_)
        obtain ⟨r10, s11, c12, hf⟩ := bd_some hf
        refine Wd.callV (n := 1) (As := [.int r7]) (rest := []) (rv := some (.int r10)) hC hW (52 + 2 * q) (kX6_bitsOf hq c12) (Tr.b hq) (Tr.o hq) rfl q562 q564 qs39 q7 q565 ⟨rfl, rfl⟩ ⟨by decide +kernel, by decide +kernel, by decide +kernel⟩ ⟨Nat.le_of_ble_eq_true rfl, Nat.le_of_ble_eq_true rfl⟩ ⟨Nat.zero_le _, Nat.zero_le _⟩ rfl hl.1 rfl (st2 := [.int r10]) rfl (Nat.le_of_ble_eq_true rfl) dX6_pointInOrder_48 (fun H locs hW => ?_)
        obtain ⟨r13, s14, c15, hf⟩ := bd_some hf
        refine Wd.callS (n := 1) (As := [.int r10]) (rest := []) (rv := some (.int r13)) hC hW (kJ6_bitCount_0f7a4 c15) q581 q373 q11 q374 ⟨rfl, rfl⟩ ⟨by decide +kernel, by decide +kernel, by decide +kernel⟩ ⟨Nat.le_of_ble_eq_true rfl, Nat.le_of_ble_eq_true rfl⟩ ⟨Nat.zero_le _, Nat.zero_le _⟩ rfl hl.1 rfl (st2 := [.int r13]) rfl (Nat.le_of_ble_eq_true rfl) dX6_pointInOrder_51 (fun H locs hW => ?_)
        refine lv_istore (lv' := [(6, .int r13), (5, .int v6), (0, .ref (ad (52 + 2 * q))), (2, .int x2), (3, .int x3), (4, .int x4)]) hx hb dX6_pointInOrder_54 hl (by decide) rfl (fun ls hl => ?_)
        refine lv_iload_n hx hb dX6_pointInOrder_56 rfl (lv_at hl 4 rfl) ?_
        refine lv_iload hx hb dX6_pointInOrder_57 (lv_at hl 0 rfl) ?_
        refine lv_icmp_ge (tgt := 72) hx hb dX6_pointInOrder_59 (by decide) (fun h16 => ?_) (fun h16 => ?_)
        · have hf := it_t h16 hf
          refine lv_iload_n hx hb dX6_pointInOrder_72 rfl (lv_at hl 4 rfl) ?_
          refine lv_iload hx hb dX6_pointInOrder_73 (lv_at hl 0 rfl) ?_
          refine lv_isub hx hb dX6_pointInOrder_75 ?_
          refine lv_topi (fun v17 ev17 => ?_)
          have hf := nx_at ev17 hf
          refine lv_istore_n (lv' := [(3, .int v17), (6, .int r13), (5, .int v6), (0, .ref (ad (52 + 2 * q))), (2, .int x2), (4, .int x4)]) hx hb dX6_pointInOrder_76 rfl hl (by decide) rfl (fun ls hl => ?_)
          refine lv_aload_n hx hb dX6_pointInOrder_77 rfl (lv_at hl 3 rfl) ?_
          refine lv_iload hx hb dX6_pointInOrder_78 (lv_at hl 2 rfl) ?_
          obtain ⟨r18, s19, c20, hf⟩ := bd_some hf
          refine Wd.callV (n := 1) (As := [.int v6]) (rest := []) (rv := some (.int r18)) hC hW (52 + 2 * q) (kX6_trailing hq c20) (Tr.b hq) (Tr.o hq) rfl q582 q569 qs40 q7 q570 ⟨rfl, rfl⟩ ⟨by decide +kernel, by decide +kernel, by decide +kernel⟩ ⟨Nat.le_of_ble_eq_true rfl, Nat.le_of_ble_eq_true rfl⟩ ⟨Nat.zero_le _, Nat.zero_le _⟩ rfl hl.1 rfl (st2 := [.int r18]) rfl (Nat.le_of_ble_eq_true rfl) dX6_pointInOrder_80 (fun H locs hW => ?_)
          refine lv_istore_n (lv' := [(2, .int r18), (3, .int v17), (6, .int r13), (5, .int v6), (0, .ref (ad (52 + 2 * q))), (4, .int x4)]) hx hb dX6_pointInOrder_83 rfl hl (by decide) rfl (fun ls hl => ?_)
          exact wX6_pointInOrder_84 hC hq ih hf hW (lv_sub hl [4, 0, 1, 5] rfl)
        · have hf := it_f h16 hf
          refine lv_aload_n hx hb dX6_pointInOrder_62 rfl (lv_at hl 2 rfl) ?_
          refine lv_iload hx hb dX6_pointInOrder_63 (lv_at hl 1 rfl) ?_
          obtain ⟨r21, s22, c23, hf⟩ := bd_some hf
          refine Wd.callV (n := 1) (As := [.int v6]) (rest := []) (rv := some (.int r21)) hC hW (52 + 2 * q) (kX6_leading hq c23) (Tr.b hq) (Tr.o hq) rfl q580 q556 qs37 q7 q557 ⟨rfl, rfl⟩ ⟨by decide +kernel, by decide +kernel, by decide +kernel⟩ ⟨Nat.le_of_ble_eq_true rfl, Nat.le_of_ble_eq_true rfl⟩ ⟨Nat.zero_le _, Nat.zero_le _⟩ rfl hl.1 rfl (st2 := [.int r21]) rfl (Nat.le_of_ble_eq_true rfl) dX6_pointInOrder_65 (fun H locs hW => ?_)
          refine lv_istore_n (lv' := [(2, .int r21), (6, .int r13), (5, .int v6), (0, .ref (ad (52 + 2 * q))), (3, .int x3), (4, .int x4)]) hx hb dX6_pointInOrder_68 rfl hl (by decide) rfl (fun ls hl => ?_)
          refine lv_goto (tgt := 84) hx hb dX6_pointInOrder_69 (by decide) ?_
          exact wX6_pointInOrder_84 hC hq ih hf hW (lv_sub hl [3, 0, 4, 5] rfl)
def fX6_pointInOrder (N : Nat) (q : Nat) (x1 : Int32) (σ : St) : Option (Int32 × St) := bd (fX6_lastCluster N q σ) (fun r1 s2 => (fX6_pointInOrder_10 N q N r1 x1 (0 : Int32) s2))
set_option maxHeartbeats 4000000 in
set_option maxRecDepth 100000 in
theorem kX6_pointInOrder {l : Launch} {D : va_G} {cA : Nat → ClassId} {ad : Nat → Nat} {N : Nat} {q : Nat} (hq : q < 4) {x1 : Int32} {σ : St} {r : Int32} {σ' : St} (hf : fX6_pointInOrder N q x1 σ = some (r, σ')) : MW kdX 140 l D cA ad ⟨RX6, "pointInOrder", "(I)I"⟩ cX6_pointInOrder 7 (some .int) rmX6_pointInOrder [.ref (ad (52 + 2 * q)), .int x1] σ (some (.int r)) σ' := by
  refine MW.of (by decide) (Nat.le_of_ble_eq_true rfl) ?_
  intro p e s m args below meth c ls hC hW hl
  have hx := hC.1
  have hb := hC.2.1
  have hown := hC.2.2.2.1
  have hts := hC.2.2.2.2.1
  have hl : lv_has ls 7 [(0, .ref (ad (52 + 2 * q))), (1, .int x1)] := hl
  unfold fX6_pointInOrder at hf
  refine lv_aload_n hx hb dX6_pointInOrder_0 rfl (lv_at hl 0 rfl) ?_
  obtain ⟨r1, s2, c3, hf⟩ := bd_some hf
  refine Wd.callV (n := 0) (As := []) (rest := []) (rv := some (.int r1)) hC hW (52 + 2 * q) (kX6_lastCluster hq c3) (Tr.b hq) (Tr.o hq) rfl q579 q549 qs36 q7 q550 ⟨rfl, rfl⟩ ⟨by decide +kernel, by decide +kernel, by decide +kernel⟩ ⟨Nat.le_of_ble_eq_true rfl, Nat.le_of_ble_eq_true rfl⟩ ⟨Nat.zero_le _, Nat.zero_le _⟩ rfl hl.1 rfl (st2 := [.int r1]) rfl (Nat.le_of_ble_eq_true rfl) dX6_pointInOrder_1 (fun H locs hW => ?_)
  refine lv_istore_n (lv' := [(2, .int r1), (0, .ref (ad (52 + 2 * q))), (1, .int x1)]) hx hb dX6_pointInOrder_4 rfl hl (by decide) rfl (fun ls hl => ?_)
  refine lv_iload_n hx hb dX6_pointInOrder_5 rfl (lv_at hl 2 rfl) ?_
  refine lv_istore_n (lv' := [(3, .int x1), (2, .int r1), (0, .ref (ad (52 + 2 * q))), (1, .int x1)]) hx hb dX6_pointInOrder_6 rfl hl (by decide) rfl (fun ls hl => ?_)
  refine lv_iconst (v := 0) hx hb dX6_pointInOrder_7 (by decide) ?_
  refine lv_istore (lv' := [(4, .int (0 : Int32)), (3, .int x1), (2, .int r1), (0, .ref (ad (52 + 2 * q))), (1, .int x1)]) hx hb dX6_pointInOrder_8 hl (by decide) rfl (fun ls hl => ?_)
  exact wX6_pointInOrder_10 hC hq N _ _ _ _ _ _ _ hf hW (lv_sub hl [3, 2, 1, 0] rfl)
abbrev rmX7_order : Room := { frames := 5, cells := 0, slots := 0, locals := 112 }
def fX7_order (N : Nat) (x1 : Int32) (x2 : Int32) (σ : St) : Option (Int32 × St) := bd (fX7_treeIn N x1 σ) (fun r1 s2 => oc r1 (some ((-1 : Int32), s2)) (fun q2 => bd (fX6_has N q2 x2 s2) (fun r4 s5 => if r4 = 0 then some ((-1 : Int32), s5) else bd (fX6_pointInOrder N q2 x2 s5) (fun r8 s9 => some (r8, s9)))))
set_option maxHeartbeats 4000000 in
set_option maxRecDepth 100000 in
theorem kX7_order {l : Launch} {D : va_G} {cA : Nat → ClassId} {ad : Nat → Nat} {N : Nat} {x1 : Int32} {x2 : Int32} {σ : St} {r : Int32} {σ' : St} (hf : fX7_order N x1 x2 σ = some (r, σ')) : MW kdX 140 l D cA ad ⟨RX7, "order", "(II)I"⟩ cX7_order 4 (some .int) rmX7_order [.ref (ad 0), .int x1, .int x2] σ (some (.int r)) σ' := by
  refine MW.of (by decide) (Nat.le_of_ble_eq_true rfl) ?_
  intro p e s m args below meth c ls hC hW hl
  have hx := hC.1
  have hb := hC.2.1
  have hown := hC.2.2.2.1
  have hts := hC.2.2.2.2.1
  have hl : lv_has ls 4 [(0, .ref (ad 0)), (1, .int x1), (2, .int x2)] := hl
  unfold fX7_order at hf
  refine lv_aload_n hx hb dX7_order_0 rfl (lv_at hl 0 rfl) ?_
  refine lv_iload_n hx hb dX7_order_1 rfl (lv_at hl 1 rfl) ?_
  obtain ⟨r1, s2, c3, hf⟩ := bd_some hf
  cases r1 with
  | none =>
    have hf := oc_n hf
    refine Wd.callV (n := 1) (As := [.int x1]) (rest := []) (rv := some .null) hC hW 0 (kX7_treeIn c3) (by decide) rfl rfl q510 q512 qs32 q1 q513 ⟨rfl, rfl⟩ ⟨by decide +kernel, by decide +kernel, by decide +kernel⟩ ⟨Nat.le_of_ble_eq_true rfl, Nat.le_of_ble_eq_true rfl⟩ ⟨Nat.zero_le _, Nat.zero_le _⟩ rfl hl.1 rfl (st2 := [.null]) rfl (Nat.le_of_ble_eq_true rfl) dX7_order_2 (fun H locs hW => ?_)
    refine lv_astore_nN (lv' := [(3, .null), (0, .ref (ad 0)), (1, .int x1), (2, .int x2)]) hx hb dX7_order_5 rfl hl (by decide) rfl (fun ls hl => ?_)
    refine lv_aload_nN hx hb dX7_order_6 rfl (lv_at hl 0 rfl) ?_
    refine lv_ifnullN (tgt := 18) hx hb dX7_order_7 (by decide) ?_
    refine lv_iconst (v := (-1)) hx hb dX7_order_18 (by decide) ?_
    obtain ⟨rfl, rfl⟩ := sp hf
    exact Wd.iret hC hW dX7_order_19
  | some q2 =>
    have hf := oc_s hf
    have hq2 := treeIn_lt c3
    refine Wd.callV (n := 1) (As := [.int x1]) (rest := []) (rv := some (.ref (ad (52 + 2 * q2)))) hC hW 0 (kX7_treeIn c3) (by decide) rfl rfl q510 q512 qs32 q1 q513 ⟨rfl, rfl⟩ ⟨by decide +kernel, by decide +kernel, by decide +kernel⟩ ⟨Nat.le_of_ble_eq_true rfl, Nat.le_of_ble_eq_true rfl⟩ ⟨Nat.zero_le _, Nat.zero_le _⟩ rfl hl.1 rfl (st2 := [.ref (ad (52 + 2 * q2))]) rfl (Nat.le_of_ble_eq_true rfl) dX7_order_2 (fun H locs hW => ?_)
    refine lv_astore_n (lv' := [(3, .ref (ad (52 + 2 * q2))), (0, .ref (ad 0)), (1, .int x1), (2, .int x2)]) hx hb dX7_order_5 rfl hl (by decide) rfl (fun ls hl => ?_)
    refine lv_aload_n hx hb dX7_order_6 rfl (lv_at hl 0 rfl) ?_
    refine lv_ifnull hx hb dX7_order_7 ?_
    refine lv_aload_n hx hb dX7_order_10 rfl (lv_at hl 0 rfl) ?_
    refine lv_iload_n hx hb dX7_order_11 rfl (lv_at hl 3 rfl) ?_
    obtain ⟨r4, s5, c6, hf⟩ := bd_some hf
    refine Wd.callVN (n := 1) (As := [.int x2]) (rest := []) (rv := some (.int r4)) hC hW (52 + 2 * q2) (kX6_has hq2 c6) (Tr.b hq2) (Tr.o hq2) rfl q527 q529 qs33 q7 q530 ⟨rfl, rfl⟩ ⟨by decide +kernel, by decide +kernel, by decide +kernel⟩ ⟨Nat.le_of_ble_eq_true rfl, Nat.le_of_ble_eq_true rfl⟩ ⟨Nat.zero_le _, Nat.zero_le _⟩ rfl hl.1 rfl (st2 := [.int r4]) rfl (Nat.le_of_ble_eq_true rfl) dX7_order_12 (fun H locs hW => ?_)
    refine lv_if_ne (tgt := 20) hx hb dX7_order_15 (by decide) (fun h7 => ?_) (fun h7 => ?_)
    · have hf := it_f h7 hf
      refine lv_aload_n hx hb dX7_order_20 rfl (lv_at hl 0 rfl) ?_
      refine lv_iload_n hx hb dX7_order_21 rfl (lv_at hl 3 rfl) ?_
      obtain ⟨r8, s9, c10, hf⟩ := bd_some hf
      refine Wd.callVN (n := 1) (As := [.int x2]) (rest := []) (rv := some (.int r8)) hC hW (52 + 2 * q2) (kX6_pointInOrder hq2 c10) (Tr.b hq2) (Tr.o hq2) rfl q575 q577 qs41 q7 q578 ⟨rfl, rfl⟩ ⟨by decide +kernel, by decide +kernel, by decide +kernel⟩ ⟨Nat.le_of_ble_eq_true rfl, Nat.le_of_ble_eq_true rfl⟩ ⟨Nat.zero_le _, Nat.zero_le _⟩ rfl hl.1 rfl (st2 := [.int r8]) rfl (Nat.le_of_ble_eq_true rfl) dX7_order_22 (fun H locs hW => ?_)
      obtain ⟨rfl, rfl⟩ := sp hf
      exact Wd.iret hC hW dX7_order_25
    · have hf := it_t h7 hf
      refine lv_iconst (v := (-1)) hx hb dX7_order_18 (by decide) ?_
      obtain ⟨rfl, rfl⟩ := sp hf
      exact Wd.iret hC hW dX7_order_19
end
