/-! constructors: kit. (From 'BEGIN new T' to 'END' the printed names' own text, claim/NAMES.whole.lean.txt; it stands there over va_AOA, which those names leave out.) -/
/-- the word 'arrayOver' for rows of t, whatever the arguments -/
def va_AOA (t : FieldType) (U : State) : Prop := ∀ B : Array Value, (Cond.arrayOver (.array t)).before B U = true
theorem va_AOA.use {t : FieldType} {B : Array Value} {U : State} (h : va_AOA t U) : (Cond.arrayOver (.array t)).before B U = true := h B
/-- tables that are alike tell the same of it: the library's Cond.arrayOver_setVmC -/
theorem va_AOA.moved {t : FieldType} {u U : State} (hvm : u.vm.Alike U.vm) (h : va_AOA t u) : va_AOA t U := fun B => by
  have e := (Cond.arrayOver_setVmC (args := B) (s := u) hvm (.array t)).trans (h B)
  simp only [Cond.before, Cond.holds, Cond.value, State.vm_setVm] at e ⊢
  exact e
/-! ===== BEGIN new T[n][m]: the outer array a place, the inner ones among the pooled ===== -/
/-- f, but v at every address of l -/
def vr_up {α : Type} (f : Nat → α) (l : List Nat) (v : α) : Nat → α := fun a => if a ∈ l then v else f a
theorem vr_up_in {α : Type} {f : Nat → α} {l : List Nat} {v : α} {a : Nat} (h : a ∈ l) : vr_up f l v a = v := if_pos h
theorem vr_up_ne {α : Type} {f : Nat → α} {l : List Nat} {v : α} {a : Nat} (h : a ∉ l) : vr_up f l v a = f a := if_neg h
theorem vr_rows {L l : List Nat} {f : Nat → va_E} {e : va_E} (h : ∀ a, a ∈ l → a ∉ L) : va_pl L f ++ l.map (fun a => (a, e)) = va_pl (L ++ l) (vr_up f l e) := by
  unfold va_pl
  rw [List.map_append]
  congr 1
  · apply List.map_congr_left
    intro a ha
    rw [vr_up_ne (fun q => h a q ha)]
  · apply List.map_congr_left
    intro a ha
    rw [vr_up_in ha]
theorem vr_lay {X rows : va_W} {x : Nat × va_E} {pl : va_W} {D : va_G} {cl : List vw_C} {H : Heap} (hP : va_P D cl (((X ++ pl) ++ [x]) ++ rows) H) : va_P D cl ((X ++ [x]) ++ (pl ++ rows)) H := by
  rw [List.append_assoc (X ++ pl)] at hP
  have h := va_P.swap hP
  rw [← List.append_assoc X] at h
  have h2 := va_P.swap h
  rw [List.append_assoc (X ++ [x])] at h2
  exact h2
theorem vr_layD {X rows : va_W} {x : Nat × va_E} {pl : va_W} {A : Nat → Prop} (hD : va_D A (((X ++ pl) ++ [x]) ++ rows)) : va_D A ((X ++ [x]) ++ (pl ++ rows)) := by
  rw [List.append_assoc (X ++ pl)] at hD
  have h := va_D.swap hD
  rw [← List.append_assoc X] at h
  have h2 := va_D.swap h
  rw [List.append_assoc (X ++ [x])] at h2
  exact h2
theorem vr_outer (c : ClassId) (N h0 : Nat) : ∀ i : Nat, Jvm.Free.Multi.outerC c N h0 i = arrV c N (fun j => va_rf (if j < i then some (h0 + 1 + j) else none))
  | 0 => by
    show ({ cls := c, slots := Array.replicate N .null, vm := .none } : Cell) = _
    rw [arrV_new]
    refine congrArg (arrV c N) (funext fun j => ?_)
    simp [va_rf]
  | i + 1 => by
    show (Jvm.Free.Multi.outerC c N h0 i).setSlot i (.ref (h0 + 1 + i)) = _
    rw [vr_outer c N h0 i, arrV_store]
    refine congrArg (arrV c N) (funext fun j => ?_)
    by_cases e : j = i
    · subst e
      simp [updV, va_rf]
    · by_cases h : j < i
      · simp [updV, e, h, Nat.lt_succ_of_lt h]
      · simp [updV, e, h, show ¬ j < i + 1 by omega]
section VGM
variable {p : Program} {l : Launch} {e : Env} {R : Room} {s : State} {m : MethodId} {args : Array Value} {below : List Frame} {meth : Method} {c : Code} {H : Heap} {locs : List Loc} {cells slots : Nat} {Q : State → Prop}
variable {cc : ByteArray} {pc : Nat} {ls : Array Slot} {rest : List Value} {D : va_G} {cl : List vw_C} {A : Nat → Prop} {a : Nat} {tys : List (ClassId × FieldType)} {ws : va_W} {H0 : Heap}
theorem va_mna {X : va_W} {L : List Nat} {f : Nat → va_E} {cc : ByteArray} (hexec : p.tables.exec = Jvm.exec) (hb : c.code = cc) {own : String} {index : Nat} {ty : FieldType} {cy : ClassId} (hown : s.vm.findClass own = some m.cls) (hclink : (Cond.classLink own index ("[" ++ (FieldType.array ty).toString)).before args s = true) (hover : va_AOA ty s) (harr : (Cond.arrayClass ty).before args s = true) (hcy : s.vm.findClass (FieldType.array ty).toString = some cy)
    (hK : va_K D cl tys s) (hP : va_P D cl (X ++ va_pl L f) H) (hD : va_D A (X ++ va_pl L f)) (hS : va_S A H0 H locs) (hA : ∀ q, H0.size ≤ q → A q) {n k : Int32} {N' K' : Nat} {z : vp_A} (hn : ¬ n < 0) (hk : ¬ k < 0) (hN : n.toNatClampNeg = N') (hM : k.toNatClampNeg = K')
    (hb1 : N' * 4 ≤ 536870912) (hb2 : K' * componentBytes ty ≤ 536870912) (hb3 : K' ≤ 536870912) (hdf : fits ty (defaultValue ty) = true) (hdd : (defaultValue ty).isDefault = true) (hcells : cells + (1 + N') ≤ R.cells) (hslots : slots + (N' + N' * K') ≤ R.slots) (hz : ∀ c : ClassId, Jvm.Free.Multi.innerC c K' (defaultValue ty) = vp_cell c z) (hdg : decode cc pc = .ok (.multianewarray index 2, 4))
    (kk : ∀ (q : Nat) (r : Nat → Nat) (cA : ClassId) (H1 : Heap), (∀ i j : Nat, i < N' → j < N' → r i = r j → i = j) → (∀ i : Nat, i < N' → r i ∉ L) → va_K D cl (tys ++ [(cA, .array ty)]) s →
      va_P D cl ((X ++ [(q, .inl (cA, N', .inr (.inr (.inr (.inr (fun i => if i < N' then some (r i) else none))))))]) ++ va_pl (L ++ (List.range N').map r) (vr_up f ((List.range N').map r) (.inl (cy, z)))) H1 → va_D A ((X ++ [(q, .inl (cA, N', .inr (.inr (.inr (.inr (fun i => if i < N' then some (r i) else none))))))]) ++ va_pl (L ++ (List.range N').map r) (vr_up f ((List.range N').map r) (.inl (cy, z)))) → va_S A H0 H1 locs →
      W p l e R s m args below meth c H1 locs (cells + 1 + N') (slots + N' + N' * K') Q (F0 m (pc + 4) ls (.ref q :: rest))) : W p l e R s m args below meth c H locs cells slots Q (F0 m pc ls (.int k :: .int n :: rest)) := by
  subst hN
  subst hM
  intro T hT Xs
  obtain ⟨vm₁, cA, comp, -, fA, fC, hO, -, X', step⟩ := Xs.multianewarray2F hexec hown hclink (va_AOA.use hover) harr (g := F0 m pc ls (.int k :: .int n :: rest)) rfl (by rw [hb]; exact hdg) rfl hn hk hb1 hb2 hb3 hdf hdd hcells hslots
  have ec : some cy = some comp := hcy.symm.trans fC
  cases ec
  generalize hF : Jvm.Free.Multi.fill (T.setVm vm₁) cA cy n.toNatClampNeg k.toNatClampNeg (defaultValue ty) n.toNatClampNeg = F at X' step
  have hTh : (T.setVm vm₁).heap = H := hT
  obtain ⟨f1, f2, -, -⟩ := Jvm.Free.Multi.fill_facts (T.setVm vm₁) cA cy n.toNatClampNeg k.toNatClampNeg (defaultValue ty) n.toNatClampNeg
  rw [hF, hTh] at f1 f2
  have hold : ∀ x : Nat, x < H.size → F.heap[x]? = H[x]? := fun x hx => by
    have := Jvm.Free.Multi.fill_old (T.setVm vm₁) cA cy n.toNatClampNeg k.toNatClampNeg (defaultValue ty) (a := x) (by rw [hTh]; exact hx) n.toNatClampNeg
    rw [hF, hTh] at this
    exact this
  have hrow : ∀ j : Nat, j < n.toNatClampNeg → F.heap[H.size + 1 + j]? = some (vp_cell cy z) := fun j hj => by
    have := Jvm.Free.Multi.fill_inner (T.setVm vm₁) cA cy n.toNatClampNeg k.toNatClampNeg (defaultValue ty) n.toNatClampNeg j hj
    rw [hF, hTh, hz] at this
    exact this
  have hout : Jvm.Free.Multi.outerC cA n.toNatClampNeg H.size n.toNatClampNeg = vp_cell cA (n.toNatClampNeg, .inr (.inr (.inr (.inr (fun i => if i < n.toNatClampNeg then some (H.size + 1 + i) else none))))) := by
    rw [vp_cell_q]
    exact vr_outer cA n.toNatClampNeg H.size n.toNatClampNeg
  rw [hout] at f2
  have hlt : ∀ a, a ∈ L → a < H.size := fun a ha => by
    obtain ⟨k9, hk9⟩ := va_pl_get (X := X) (f := f) ha
    exact (hP k9 _ hk9).lt
  have hnl : ∀ i : Nat, i < n.toNatClampNeg → H.size + 1 + i ∉ L := fun i _ h => by
    have := hlt _ h
    omega
  have hnm : ∀ a, a ∈ (List.range n.toNatClampNeg).map (fun i => H.size + 1 + i) → a ∉ L := fun a ha h => by
    obtain ⟨i, -, rfl⟩ := List.mem_map.mp ha
    have := hlt _ h
    omega
  have hP0 : va_P D cl (X ++ va_pl L f) F.heap := hP.kept (fun k9 x hx => hold x.1 ((hP k9 x hx).lt))
  have hP1 : va_P D cl ((X ++ va_pl L f) ++ [(H.size, .inl (cA, n.toNatClampNeg, .inr (.inr (.inr (.inr (fun i => if i < n.toNatClampNeg then some (H.size + 1 + i) else none))))))]) F.heap := hP0.app (fun k9 x hx => by
    have h0 : k9 < 1 := (List.getElem?_eq_some_iff.mp hx).1
    rw [show k9 = 0 by omega] at hx
    cases hx
    exact f2)
  have hP2 : va_P D cl (((X ++ va_pl L f) ++ [(H.size, .inl (cA, n.toNatClampNeg, .inr (.inr (.inr (.inr (fun i => if i < n.toNatClampNeg then some (H.size + 1 + i) else none))))))]) ++ ((List.range n.toNatClampNeg).map (fun i => H.size + 1 + i)).map (fun a => (a, .inl (cy, z)))) F.heap := hP1.app (fun k9 x hx => by
    obtain ⟨a, ha, rfl⟩ := List.mem_map.mp (List.mem_of_getElem? hx)
    obtain ⟨i, hi, rfl⟩ := List.mem_map.mp ha
    exact hrow i (List.mem_range.mp hi))
  have hD2 : va_D A (((X ++ va_pl L f) ++ [(H.size, .inl (cA, n.toNatClampNeg, .inr (.inr (.inr (.inr (fun i => if i < n.toNatClampNeg then some (H.size + 1 + i) else none))))))]) ++ ((List.range n.toNatClampNeg).map (fun i => H.size + 1 + i)).map (fun a => (a, .inl (cy, z)))) := by
    have hD1 := hD.push (e := .inl (cA, n.toNatClampNeg, .inr (.inr (.inr (.inr (fun i => if i < n.toNatClampNeg then some (H.size + 1 + i) else none)))))) hP rfl (hA _ hS.1)
    generalize hW1 : (X ++ va_pl L f) ++ [(H.size, .inl (cA, n.toNatClampNeg, .inr (.inr (.inr (.inr (fun i => if i < n.toNatClampNeg then some (H.size + 1 + i) else none))))))] = W1 at hD1 hP1 ⊢
    have hle : ∀ (k9 : Nat) (x : Nat × va_E), W1[k9]? = some x → x.1 ≤ H.size := fun k9 x hx => by
      rw [← hW1] at hx
      by_cases hl : k9 < (X ++ va_pl L f).length
      · rw [List.getElem?_append_left hl] at hx
        exact Nat.le_of_lt ((hP k9 x hx).lt)
      · rw [List.getElem?_append_right (by omega)] at hx
        have h0 : k9 - (X ++ va_pl L f).length < 1 := (List.getElem?_eq_some_iff.mp hx).1
        rw [show k9 - (X ++ va_pl L f).length = 0 by omega] at hx
        cases hx
        exact Nat.le_refl _
    have hr : ∀ (k9 : Nat) (x : Nat × va_E), (((List.range n.toNatClampNeg).map (fun i => H.size + 1 + i)).map (fun a => ((a, .inl (cy, z)) : Nat × va_E)))[k9]? = some x → x.1 = H.size + 1 + k9 := fun k9 x hx => by
      rw [List.getElem?_map, List.getElem?_map] at hx
      by_cases h9 : k9 < n.toNatClampNeg
      · rw [List.getElem?_range h9] at hx
        cases hx
        rfl
      · have hn0 : (List.range n.toNatClampNeg)[k9]? = none := List.getElem?_eq_none (by rw [List.length_range]; omega)
        rw [hn0] at hx
        cases hx
    refine ⟨fun i j x y hi hj hxy => ?_, fun k9 x hx => ?_⟩
    · by_cases h1 : i < W1.length <;> by_cases h2 : j < W1.length
      · rw [List.getElem?_append_left h1] at hi
        rw [List.getElem?_append_left h2] at hj
        exact hD1.1 i j x y hi hj hxy
      · rw [List.getElem?_append_left h1] at hi
        rw [List.getElem?_append_right (by omega)] at hj
        have := hle _ _ hi
        have := hr _ _ hj
        omega
      · rw [List.getElem?_append_right (by omega)] at hi
        rw [List.getElem?_append_left h2] at hj
        have := hle _ _ hj
        have := hr _ _ hi
        omega
      · rw [List.getElem?_append_right (by omega)] at hi hj
        have := hr _ _ hi
        have := hr _ _ hj
        omega
    · by_cases h1 : k9 < W1.length
      · rw [List.getElem?_append_left h1] at hx
        exact hD1.2 k9 x hx
      · rw [List.getElem?_append_right (by omega)] at hx
        have := hr _ _ hx
        exact hA _ (by have := hS.1; omega)
  have hAr : ArrOfT s cA (.array ty) := fun N9 z9 => by
    obtain ⟨-, k9, hk9, cm9, hkk9⟩ := (hO 0 0 0).1
    exact ⟨(fun q hq => by cases hq), k9, hk9, cm9, hkk9⟩
  have hK2 : va_K D cl (tys ++ [(cA, .array ty)]) s := ⟨hK.1, fun k9 x hx => by
    by_cases hl : k9 < tys.length
    · rw [List.getElem?_append_left hl] at hx
      exact hK.2 k9 x hx
    · rw [List.getElem?_append_right (by omega)] at hx
      have h0 : k9 - tys.length < 1 := (List.getElem?_eq_some_iff.mp hx).1
      rw [show k9 - tys.length = 0 by omega] at hx
      cases hx
      exact ⟨hAr, fA⟩⟩
  obtain ⟨t, a1, b1⟩ := kk H.size (fun i => H.size + 1 + i) cA F.heap (fun i j _ _ h => by have h9 : H.size + 1 + i = H.size + 1 + j := h; omega) hnl hK2 (by rw [← vr_rows hnm]; exact vr_lay hP2) (by rw [← vr_rows hnm]; exact vr_layD hD2) ⟨by rw [f1]; have := hS.1; omega, fun x h1 h2 => (hold x (Nat.lt_of_lt_of_le h1 hS.1)).trans (hS.2.1 x h1 h2), hS.2.2⟩ F rfl X'
  refine ⟨t, step t ?_, b1⟩
  have e : T.heap.size = H.size := by rw [hT]
  rw [e]
  exact a1
end VGM
/-! ===== END ===== -/
def AOs (U : State) : Prop := va_AOA .int U ∧ va_AOA .long U ∧ va_AO "DendroDesk$Tree" U
theorem AOs.moved {u U : State} (hvm : u.vm.Alike U.vm) (h : AOs u) : AOs U := ⟨h.1.moved hvm, h.2.1.moved hvm, h.2.2.moved hvm⟩
theorem RA_u {U : State} {a b : ClassId} {ty : FieldType} (h1 : va_RA U a ty) (h2 : va_RA U b ty) : a = b := by
  cases ty with
  | object C =>
    obtain ⟨_, _, _, _, _, e1⟩ := h1
    obtain ⟨_, _, _, _, _, e2⟩ := h2
    exact Option.some.inj (e1.symm.trans e2)
  | _ => exact Option.some.inj (h1.symm.trans h2)
/-- a world that grows -/
def Wi (D : va_G) (A : Nat → Prop) (s : State) (ws : va_W) (H : Heap) (locs : List Loc) : Prop := va_P D classes ws H ∧ va_D A ws ∧ va_S A s.heap H locs
def PreI (D : va_G) (cA : Nat → ClassId) (h0 ci : Nat) (fs : List Value) (sz : Nat) (U : State) : Prop := U.heap.size = sz ∧ va_P D classes [(h0, .inr (ci, fs))] U.heap ∧ va_K D classes (tysOf cA) U ∧ AOs U ∧ Nws U
def QI {S : Type} (D : va_G) (post : S → va_W) (A : Nat → Prop) : Array Value → State → Outcome → State → Prop := va_Qv (fun _ : S => True) (fun r t => va_P D classes (post r) t.heap ∧ va_D A (post r)) A
/-- a constructor: from a cell of zeroes to its cells, at new addresses r -/
def MI {S : Type} (l : Launch) (D : va_G) (cA : Nat → ClassId) (y : MethodName) (cc : ByteArray) (nL : Nat) (rm : Room) (h0 ci : Nat) (fs : List Value) (sz : Nat) (post : S → va_W) (mc ms : Nat) : Prop :=
  Met l y (wc y cc nL none) rm (va_Pc [.ref h0] (PreI D cA h0 ci fs sz)) (QI D post (va_A [(h0, .inr (ci, fs))] sz)) mc ms (va_A [(h0, .inr (ci, fs))] sz)
theorem D_one {A : Nat → Prop} {a : Nat} {e : va_E} (h : A a) : va_D A [(a, e)] := by
  refine ⟨fun i j p q hi hj _ => ?_, fun k q hk => ?_⟩
  · have h1 : i < 1 := (List.getElem?_eq_some_iff.mp hi).1
    have h2 : j < 1 := (List.getElem?_eq_some_iff.mp hj).1
    omega
  · have h1 : k < 1 := (List.getElem?_eq_some_iff.mp hk).1
    rw [show k = 0 by omega] at hk
    cases hk
    exact h
theorem PreI.blind {D : va_G} {cA : Nat → ClassId} {h0 ci sz : Nat} {fs : List Value} {As : List Value} : FrameBlind (va_Pc As (PreI D cA h0 ci fs sz)) := by
  intro a U g mk q
  obtain ⟨e, h1, hP, hK, hO, hN⟩ := q
  exact ⟨e, h1, hP, va_K.moved (u := U) (U := U.calling g mk a) (Vm.Alike.refl U.vm) hK, AOs.moved (u := U) (U := U.calling g mk a) (Vm.Alike.refl U.vm) hO, Nws.same (u := U) (U := U.calling g mk a) rfl hN⟩
theorem MI.of {l : Launch} {D : va_G} {cA : Nat → ClassId} {own : String} {cc : ByteArray} {nL : Nat} {rm : Room} {h0 ci : Nat} {fs : List Value} {sz : Nat} {S : Type} {post : S → va_W} {mc ms : Nat} (hy : plainName own = true) (hn : 1 ≤ nL)
    (body : ∀ p e s m args below meth c ls A, Cx own cc nL none D cA p s m args meth c → meth.name = "<init>" → AOs s → (∀ q, s.heap.size ≤ q → A q) → Wi D A s [(h0, .inr (ci, fs))] s.heap [] → lv_has ls nL [(0, .ref h0)] →
      W p l e rm s m args below meth c s.heap [] 0 0 (MQ below (QI D post A) args s mc ms A) (F0 m 0 ls [])) : MI l D cA ⟨own, "<init>", "()V"⟩ cc nL rm h0 ci fs sz post mc ms := by
  refine Met.ofW (cc := cc) (maxL := nL) (ret := none) hy rfl ?_
  intro p e s m args below meth c s₁ B hml hv
  obtain ⟨rfl, hsz, hP, hK, hO, hNw⟩ := hv
  have hts := atoms_spec (ws := wc ⟨own, "<init>", "()V"⟩ cc nL none) B.pre
  have hown : s.vm.findClass own = some m.cls := findClass_of_methodNamed B.named
  have hin : meth.name = "<init>" := (name_of_methodNamed B.named B.method).1
  subst hsz
  have hl := lv_entry ([.ref h0]) (n := nL) hn
  rw [lg_entry_eq]
  exact body p e s m _ below meth c _ _ ⟨B.exec, B.bytes, hml, hown, fun w hw => hts w (List.mem_cons_of_mem _ hw), hNw, hK, B.returns, B.notSynchronized⟩ hin hO (fun q h => Or.inr h) ⟨hP, D_one (Or.inl ⟨0, _, rfl⟩), va_S.rf⟩ hl
theorem rng_self {w : va_W} : (List.range w.length).map (fun i => w[i]?) = w.map some := by
  apply List.ext_getElem?
  intro i
  rw [List.getElem?_map, List.getElem?_map]
  by_cases h : i < w.length
  · rw [List.getElem?_range h, List.getElem?_eq_getElem h]
    show some w[i]? = some (some w[i])
    rw [List.getElem?_eq_getElem h]
  · rw [List.getElem?_eq_none (by rw [List.length_range]; omega), List.getElem?_eq_none (by omega)]; rfl
/-- behind a call: what was there, and what the callee made of its own -/
theorem join_s {A0 : Nat → Prop} {D : va_G} {cl : List vw_C} {ws wc w1 : va_W} {H H1 : Heap} (hP : va_P D cl (ws ++ wc) H) (hD : va_D A0 (ws ++ wc)) (hk : ∀ q : Nat, q < H.size → ¬ va_A wc H.size q → H1[q]? = H[q]?) (hF : ∀ q, va_A wc H.size q → A0 q) (hP1 : va_P D cl w1 H1) (hD1 : va_D (va_A wc H.size) w1) : va_P D cl (ws ++ w1) H1 ∧ va_D A0 (ws ++ w1) := by
  have hP' : va_P D cl (wc ++ ws) H := va_P.swap (a := []) hP
  have hD' : va_D A0 (wc ++ ws) := va_D.swap (a := []) hD
  have r := va_joinQ (X := wc) (cx := wc) (wr := []) (pl := ws) hP' hD' (List.range wc.length) [] rng_self rfl rfl (fun i hi => absurd hi List.not_mem_nil) hk hF hP1 hD1
  exact ⟨va_P.swap (a := []) (b := w1) (c := ws) r.1, va_D.swap (a := []) (b := w1) (c := ws) r.2⟩
theorem free_s {A0 : Nat → Prop} {ws wc : va_W} {H0 H : Heap} {locs : List Loc} (hD : va_D A0 (ws ++ wc)) (hS : va_S A0 H0 H locs) (hA : ∀ q, H0.size ≤ q → A0 q) : ∀ q, va_A wc H.size q → A0 q := by
  rintro q (⟨k, e, h⟩ | h)
  · refine hD.2 (ws.length + k) (q, e) ?_
    rw [List.getElem?_append_right (by omega), Nat.add_sub_cancel_left]; exact h
  · exact hA q (Nat.le_trans hS.1 h)
section KIT
variable {D : va_G} {cA : Nat → ClassId} {A : Nat → Prop} {ws : va_W}
variable {p : Program} {l : Launch} {e : Env} {R : Room} {s : State} {m : MethodId} {args : Array Value} {below : List Frame} {meth : Method} {c : Code} {H : Heap} {locs : List Loc} {Q : State → Prop} {cells slots : Nat}
variable {own : String} {cc : ByteArray} {nL : Nat} {rt : Option FieldType} {pc : Nat} {ls : Array Slot} {rest : List Value}
theorem Wi.obj (hC : Cx own cc nL rt D cA p s m args meth c) {idx : Nat} {a : Nat} (w1 : Cond.methodLink own idx objectInit ∈ lw_good) (w2 : Cond.instanceMethod objectInit ∈ lw_good) (w3 : Cond.code objectInit ⟨#[0xb1]⟩ 1 none ∈ lw_good) (hls : ls.size = nL) (hdg : decode cc pc = .ok (.invokespecial idx, 3)) (hf : 1 ≤ R.frames) (hloc : 2 * (F0 m pc ls (.ref a :: rest)).monitorRoom + (rest.map fun v => v.category).sum + 12 ≤ R.locals)
    (kk : W p l e R s m args below meth c H locs cells slots Q (F0 m (pc + 3) ls rest)) : W p l e R s m args below meth c H locs cells slots Q (F0 m pc ls (.ref a :: rest)) :=
  W.objInit hC.1 hC.2.1 hC.2.2.2.1 (hC.2.2.2.2.1 _ w1) (hC.2.2.2.2.1 _ w2) (hC.2.2.2.2.1 _ w3) rfl (by rw [hC.2.2.1]; exact hls) rfl hdg hf hloc kk
theorem Wi.newa (hC : Cx own cc nL rt D cA p s m args meth c) (hA : ∀ q, s.heap.size ≤ q → A q) (hW : Wi D A s ws H locs) (t : Nat) {ty : FieldType} {atype : ArrayType} (ht : (tysOf cA)[t]? = some (cA t, ty)) (hat : newarray.typeOf atype = ty) (w : Cond.arrayClass ty ∈ lw_good) {n : Int32} {N' : Nat} (a0 : vp_A) (ha : ∀ c : ClassId, vp_cell c a0 = arrV c N' (fun _ => defaultValue ty)) (hn : ¬ n < 0) (hN : n.toNatClampNeg = N') (hbytes : N' * componentBytes ty ≤ 536870912) (hcells : cells + 1 ≤ R.cells) (hslots : slots + N' ≤ R.slots) (hdg : decode cc pc = .ok (.newarray atype, 2))
    (kk : ∀ (q : Nat) (H : Heap), Wi D A s (ws ++ [(q, .inl (cA t, a0))]) H locs → W p l e R s m args below meth c H locs (cells + 1) (slots + N') Q (F0 m (pc + 2) ls (.ref q :: rest))) : W p l e R s m args below meth c H locs cells slots Q (F0 m pc ls (.int n :: rest)) := by
  have hK := hC.2.2.2.2.2.2.1
  refine va_newa hC.1 hC.2.1 (by rw [hat]; exact hC.2.2.2.2.1 _ w) hat hK hW.1 hW.2.1 hW.2.2 hA ha hn hN hbytes hcells hslots hdg (fun q cB H1 hK1 hP1 hD1 hS1 => ?_)
  have e1 : cB = cA t := RA_u (hK1.2 7 (cB, ty) rfl).2 (hK.2 t _ ht).2
  subst e1
  exact kk q H1 ⟨hP1, hD1, hS1⟩
theorem Wi.newq (hC : Cx own cc nL rt D cA p s m args meth c) (hO : AOs s) (hA : ∀ q, s.heap.size ≤ q → A q) (hW : Wi D A s ws H locs) {index : Nat} (w : Cond.classLink own index "DendroDesk$Tree" ∈ lw_good) {n : Int32} {N' : Nat} (hn : ¬ n < 0) (hN : n.toNatClampNeg = N') (hbytes : N' * 4 ≤ 536870912) (hcells : cells + 1 ≤ R.cells) (hslots : slots + N' ≤ R.slots) (hdg : decode cc pc = .ok (.anewarray index, 3))
    (kk : ∀ (q : Nat) (H : Heap), Wi D A s (ws ++ [(q, .inl (cA 6, N', .inr (.inr (.inr (.inr (fun _ => none))))))]) H locs → W p l e R s m args below meth c H locs (cells + 1) (slots + N') Q (F0 m (pc + 3) ls (.ref q :: rest))) : W p l e R s m args below meth c H locs cells slots Q (F0 m pc ls (.int n :: rest)) := by
  have hK := hC.2.2.2.2.2.2.1
  refine va_newq hC.1 hC.2.1 hC.2.2.2.1 (hC.2.2.2.2.1 _ w) hO.2.2 hK hW.1 hW.2.1 hW.2.2 hA hn hN hbytes hcells hslots hdg (fun q cB H1 hK1 hP1 hD1 hS1 => ?_)
  have e1 : cB = cA 6 := RA_u (hK1.2 7 (cB, .object "DendroDesk$Tree") rfl).2 (hK.2 6 _ rfl).2
  subst e1
  exact kk q H1 ⟨hP1, hD1, hS1⟩
theorem Wi.mna (hC : Cx own cc nL rt D cA p s m args meth c) (hA : ∀ q, s.heap.size ≤ q → A q) (hW : Wi D A s ws H locs) (t u : Nat) {index : Nat} {ty : FieldType} (hover : va_AOA ty s) (ht : (tysOf cA)[t]? = some (cA t, .array ty)) (hu : (tysOf cA)[u]? = some (cA u, ty)) (w1 : Cond.classLink own index ("[" ++ (FieldType.array ty).toString) ∈ lw_good) (w2 : Cond.arrayClass ty ∈ lw_good) (hcy : va_RA s (cA u) ty → s.vm.findClass (FieldType.array ty).toString = some (cA u)) {n k : Int32} {N' K' : Nat} (z : vp_A) (hn : ¬ n < 0) (hk : ¬ k < 0) (hN : n.toNatClampNeg = N') (hM : k.toNatClampNeg = K')
    (hb1 : N' * 4 ≤ 536870912) (hb2 : K' * componentBytes ty ≤ 536870912) (hb3 : K' ≤ 536870912) (hdf : fits ty (defaultValue ty) = true) (hdd : (defaultValue ty).isDefault = true) (hcells : cells + (1 + N') ≤ R.cells) (hslots : slots + (N' + N' * K') ≤ R.slots) (hz : ∀ c : ClassId, Jvm.Free.Multi.innerC c K' (defaultValue ty) = vp_cell c z) (hdg : decode cc pc = .ok (.multianewarray index 2, 4))
    (kk : ∀ (q : Nat) (r : Nat → Nat) (H : Heap), Wi D A s (ws ++ ((q, .inl (cA t, N', .inr (.inr (.inr (.inr (fun i => if i < N' then some (r i) else none)))))) :: (List.range N').map (fun i => (r i, .inl (cA u, z))))) H locs → W p l e R s m args below meth c H locs (cells + 1 + N') (slots + N' + N' * K') Q (F0 m (pc + 4) ls (.ref q :: rest))) : W p l e R s m args below meth c H locs cells slots Q (F0 m pc ls (.int k :: .int n :: rest)) := by
  have hK := hC.2.2.2.2.2.2.1
  refine va_mna (X := ws) (L := []) (f := fun _ => .inl (cA u, z)) (cy := cA u) hC.1 hC.2.1 hC.2.2.2.1 (hC.2.2.2.2.1 _ w1) hover (hC.2.2.2.2.1 _ w2) (hcy (hK.2 u _ hu).2) hK (by show va_P D classes (ws ++ []) H; rw [List.append_nil]; exact hW.1) (by show va_D A (ws ++ []); rw [List.append_nil]; exact hW.2.1) hW.2.2 hA hn hk hN hM hb1 hb2 hb3 hdf hdd hcells hslots hz hdg (fun q r cB H1 hr _ hK1 hP1 hD1 hS1 => ?_)
  have e1 : cB = cA t := RA_u (hK1.2 7 (cB, .array ty) rfl).2 (hK.2 t _ ht).2
  subst e1
  have e2 : va_pl ([] ++ (List.range N').map r) (vr_up (fun _ => .inl (cA u, z)) ((List.range N').map r) (.inl (cA u, z))) = (List.range N').map (fun i => (r i, (.inl (cA u, z) : va_E))) := by
    unfold va_pl
    rw [List.nil_append, List.map_map]
    refine List.map_congr_left (fun i hi => ?_)
    show (r i, vr_up _ _ _ (r i)) = _
    rw [vr_up_in (List.mem_map.mpr ⟨i, hi, rfl⟩)]
  rw [e2, List.append_assoc] at hP1 hD1
  exact kk q r H1 ⟨hP1, hD1, hS1⟩
theorem Wi.new (hC : Cx own cc nL rt D cA p s m args meth c) (hA : ∀ q, s.heap.size ≤ q → A q) (hW : Wi D A s ws H locs) {C : String} {T : u_T} {NN ci index : Nat} (hin : ∀ w ∈ u_ws C T NN, w ∈ lw_good) (ty : Nat → FieldType) (hty : ∀ k, k < NN → parseFieldDescriptor (T k).2.2.1 = some (ty k)) (w1 : Cond.classLink own index C ∈ lw_good) (w2 : Cond.instantiable C NN ∈ lw_good) (w3 : Cond.initialized C ∈ lw_good) (hcl : classes[ci]? = some (C, T, NN)) (fs : List Value) (hfs : ∀ j, j < NN → defaultValue (ty j) = vp_V fs j) (hcells : cells + 1 ≤ R.cells) (hslots : slots + NN ≤ R.slots) (hdg : decode cc pc = .ok (.new index, 3))
    (kk : ∀ (q : Nat) (H : Heap), Wi D A s (ws ++ [(q, .inr (ci, fs))]) H locs → W p l e R s m args below meth c H locs (cells + 1) (slots + NN) Q (F0 m (pc + 3) ls (.ref q :: rest))) : W p l e R s m args below meth c H locs cells slots Q (F0 m pc ls rest) :=
  va_new hC.1 hC.2.1 hC.2.2.2.2.1 hin ty hty hC.2.2.2.1 (hC.2.2.2.2.1 _ w1) (hC.2.2.2.2.1 _ w2) (hC.2.2.2.2.1 _ w3) hC.2.2.2.2.2.2.1 hW.1 hW.2.1 hW.2.2 hA hcl hfs hcells hslots hdg (fun q H1 h1 h2 h3 => kk q H1 ⟨h1, h2, h3⟩)
theorem Wi.putF (hC : Cx own cc nL rt D cA p s m args meth c) (hi : meth.name = "<init>") {h0 ci : Nat} {fs : List Value} (hW : Wi D A s ((h0, .inr (ci, fs)) :: ws) H locs) (k : Nat) {T : u_T} {NN index : Nat} {ty0 : Nat → FieldType} {ty : FieldType} {v : Value} (hin : ∀ w ∈ u_ws own T NN, w ∈ lw_good) (hty : ∀ k, k < NN → parseFieldDescriptor (T k).2.2.1 = some (ty0 k)) (hnm : ∀ a, a < NN → ∀ b, b < NN → a ≠ b → (T a).2.1 ≠ (T b).2.1) (hcl : classes[ci]? = some (own, T, NN)) (hk : k < NN) (w : Cond.fieldLink own index own (T k).2.1 (T k).2.2.1 ∈ lw_good) (hd0 : (T k).1 = own) (hfin : (T k).2.2.2 = true) (hd : parseFieldDescriptor (T k).2.2.1 = some ty) (hn : narrow ty v = v) (hfit : fits ty v = true) (hl : k < fs.length) (hdg : decode cc pc = .ok (.putfield index, 3))
    (kk : ∀ (H : Heap) (locs : List Loc), Wi D A s ((h0, .inr (ci, fs.set k v)) :: ws) H locs → W p l e R s m args below meth c H locs cells slots Q (F0 m (pc + 3) ls rest)) : W p l e R s m args below meth c H locs cells slots Q (F0 m pc ls (v :: .ref h0 :: rest)) :=
  va_putF hC.1 hC.2.1 hC.2.2.2.2.1 hin ty0 hty hnm hC.2.2.2.1 hC.2.2.2.2.2.2.1 hW.1 hW.2.1 hW.2.2 0 rfl hcl k hk (hC.2.2.2.2.1 _ w) (fun _ h => by rw [hd0] at h; exact h) hfin hi hd0 hd hn hfit hl hdg (fun H1 locs1 h1 h2 h3 => kk H1 locs1 ⟨h1, h2, h3⟩)
theorem Wi.put (hC : Cx own cc nL rt D cA p s m args meth c) {h0 ci : Nat} {fs : List Value} (hW : Wi D A s ((h0, .inr (ci, fs)) :: ws) H locs) (k : Nat) {T : u_T} {NN index : Nat} {ty0 : Nat → FieldType} {ty : FieldType} {v : Value} (hin : ∀ w ∈ u_ws own T NN, w ∈ lw_good) (hty : ∀ k, k < NN → parseFieldDescriptor (T k).2.2.1 = some (ty0 k)) (hnm : ∀ a, a < NN → ∀ b, b < NN → a ≠ b → (T a).2.1 ≠ (T b).2.1) (hcl : classes[ci]? = some (own, T, NN)) (hk : k < NN) (w : Cond.fieldLink own index own (T k).2.1 (T k).2.2.1 ∈ lw_good) (hd0 : (T k).1 = own) (hfin : (T k).2.2.2 = false) (hd : parseFieldDescriptor (T k).2.2.1 = some ty) (hn : narrow ty v = v) (hfit : fits ty v = true) (hl : k < fs.length) (hdg : decode cc pc = .ok (.putfield index, 3))
    (kk : ∀ (H : Heap) (locs : List Loc), Wi D A s ((h0, .inr (ci, fs.set k v)) :: ws) H locs → W p l e R s m args below meth c H locs cells slots Q (F0 m (pc + 3) ls rest)) : W p l e R s m args below meth c H locs cells slots Q (F0 m pc ls (v :: .ref h0 :: rest)) :=
  va_put hC.1 hC.2.1 hC.2.2.2.2.1 hin ty0 hty hnm hC.2.2.2.1 hC.2.2.2.2.2.2.1 hW.1 hW.2.1 hW.2.2 0 rfl hcl k hk (hC.2.2.2.2.1 _ w) (fun _ h => by rw [hd0] at h; exact h) hfin hd hn hfit hl hdg (fun H1 locs1 h1 h2 h3 => kk H1 locs1 ⟨h1, h2, h3⟩)
theorem Wi.preI (hC : Cx own cc nL rt D cA p s m args meth c) (hO : AOs s) {q ci : Nat} {fs : List Value} (hW : Wi D A s (ws ++ [(q, .inr (ci, fs))]) H locs) : ∀ U : State, U.heap = H → s.WarmedH U.vm → va_Pc [.ref q] (PreI D cA q ci fs H.size) [Value.ref q].toArray U := by
  intro U hU hWm
  refine ⟨rfl, by rw [hU], ?_, va_K.moved hWm.alike hC.2.2.2.2.2.2.1, AOs.moved hWm.alike hO, Nws.warm hWm hC.2.2.2.2.2.1⟩
  rw [hU]
  intro k x hk
  exact hW.1 (ws.length + k) x (by rw [List.getElem?_append_right (by omega), Nat.add_sub_cancel_left]; exact hk)
/-- a constructor of the nest is called -/
theorem Wi.callN (hC : Cx own cc nL rt D cA p s m args meth c) (hO : AOs s) (hA : ∀ q, s.heap.size ≤ q → A q) {q ci : Nat} {fs : List Value} (hW : Wi D A s (ws ++ [(q, .inr (ci, fs))]) H locs) {C host : String} {bytes : ByteArray} {maxL index mc ms : Nat} {rm : Room} {S : Type} {post : S → va_W}
    (hM : MI l D cA ⟨C, "<init>", "()V"⟩ bytes maxL rm q ci fs H.size post mc ms) (w1 : Cond.methodLinkNest own index ⟨C, "<init>", "()V"⟩ host ∈ lw_tbl) (w2 : Cond.instanceMethod ⟨C, "<init>", "()V"⟩ ∈ lw_good) (w4 : Cond.initialized C ∈ lw_good) (w5 : Cond.code ⟨C, "<init>", "()V"⟩ bytes maxL none ∈ lw_good)
    (hrm : rm.cells = mc ∧ rm.slots = ms) (hd : C ≠ "java/lang/invoke/MethodHandle" ∧ C ≠ "java/lang/invoke/VarHandle" ∧ (parseMethodDescriptor "()V").map (fun d => d.parameters.length) = some 0) (hR : rm.frames + 1 ≤ R.frames ∧ 8 + (maxL + 11) + rm.locals ≤ R.locals) (hcs : cells + mc ≤ R.cells ∧ slots + ms ≤ R.slots) (hls : ls.size = nL) (hrest : (rest.map fun v => v.category).sum ≤ 8) (hdg : decode cc pc = .ok (.invokespecial index, 3))
    (kk : ∀ (r : S) (H : Heap) (locs : List Loc), Wi D A s (ws ++ post r) H locs → W p l e R s m args below meth c H locs (cells + mc) (slots + ms) Q (F0 m (pc + 3) ls rest)) : W p l e R s m args below meth c H locs cells slots Q (F0 m pc ls (.ref q :: rest)) := by
  have hF := free_s (ws := ws) (wc := [(q, .inr (ci, fs))]) hW.2.1 hW.2.2 hA
  refine va_callv (va_runIN (As := []) (rest := rest) (n := 0) ⟨hC.1, hC.2.1, hC.2.2.1, hC.2.2.2.1, hC.2.2.2.2.1⟩ hM ⟨va_cnB 0 hC.2.2.2.2.1 (wc_good w5) rfl hrm.1 hrm.2 (hC.2.2.2.2.2.1 _ w1 rfl) (hC.2.2.2.2.1 _ w4) hd hR, rfl, hC.2.2.2.2.1 _ w2⟩ ⟨PreI.blind, hW.preI hC hO⟩ rfl rfl hls rfl (lv_room hrest) hdg hcs) hW.2.2 (fun q _ h => hF q h) hF (fun u t H1 locs1 ht hvm _ hB hz1 hk1 hS => ?_)
  obtain ⟨hP1, hD1⟩ := hB
  rw [ht] at hP1
  have j := join_s hW.1 hW.2.1 hk1 hF hP1 hD1
  exact kk u H1 locs1 ⟨j.1, j.2, hS⟩
/-- the same, of another class that may be seen -/
theorem Wi.callI (hC : Cx own cc nL rt D cA p s m args meth c) (hO : AOs s) (hA : ∀ q, s.heap.size ≤ q → A q) {q ci : Nat} {fs : List Value} (hW : Wi D A s (ws ++ [(q, .inr (ci, fs))]) H locs) {C : String} {bytes : ByteArray} {maxL index mc ms : Nat} {rm : Room} {S : Type} {post : S → va_W}
    (hM : MI l D cA ⟨C, "<init>", "()V"⟩ bytes maxL rm q ci fs H.size post mc ms) (w1 : Cond.methodLink own index ⟨C, "<init>", "()V"⟩ ∈ lw_good) (w2 : Cond.instanceMethod ⟨C, "<init>", "()V"⟩ ∈ lw_good) (w4 : Cond.initialized C ∈ lw_good) (w5 : Cond.code ⟨C, "<init>", "()V"⟩ bytes maxL none ∈ lw_good)
    (hrm : rm.cells = mc ∧ rm.slots = ms) (hd : C ≠ "java/lang/invoke/MethodHandle" ∧ C ≠ "java/lang/invoke/VarHandle" ∧ (parseMethodDescriptor "()V").map (fun d => d.parameters.length) = some 0) (hR : rm.frames + 1 ≤ R.frames ∧ 8 + (maxL + 11) + rm.locals ≤ R.locals) (hcs : cells + mc ≤ R.cells ∧ slots + ms ≤ R.slots) (hls : ls.size = nL) (hrest : (rest.map fun v => v.category).sum ≤ 8) (hdg : decode cc pc = .ok (.invokespecial index, 3))
    (kk : ∀ (r : S) (H : Heap) (locs : List Loc), Wi D A s (ws ++ post r) H locs → W p l e R s m args below meth c H locs (cells + mc) (slots + ms) Q (F0 m (pc + 3) ls rest)) : W p l e R s m args below meth c H locs cells slots Q (F0 m pc ls (.ref q :: rest)) := by
  have hF := free_s (ws := ws) (wc := [(q, .inr (ci, fs))]) hW.2.1 hW.2.2 hA
  refine va_callv (va_runI (As := []) (rest := rest) (n := 0) ⟨hC.1, hC.2.1, hC.2.2.1, hC.2.2.2.1, hC.2.2.2.2.1⟩ hM (cwI 0 hC.2.2.2.2.1 (wc_good w5) rfl hrm.1 hrm.2 (hC.2.2.2.2.1 _ w4) (hC.2.2.2.2.1 _ w1) (hC.2.2.2.2.1 _ w2) rfl hd hR) ⟨PreI.blind, hW.preI hC hO⟩ rfl rfl hls rfl (lv_room hrest) hdg hcs) hW.2.2 (fun q _ h => hF q h) hF (fun u t H1 locs1 ht hvm _ hB hz1 hk1 hS => ?_)
  obtain ⟨hP1, hD1⟩ := hB
  rw [ht] at hP1
  have j := join_s hW.1 hW.2.1 hk1 hF hP1 hD1
  exact kk u H1 locs1 ⟨j.1, j.2, hS⟩
theorem Wi.ret (hC : Cx own cc nL none D cA p s m args meth c) {S : Type} {post : S → va_W} (r : S) (hW : Wi D A s (post r) H locs) {mc ms : Nat} (h1 : cells ≤ mc) (h2 : slots ≤ ms) (hdg : decode cc pc = .ok (.return_, 1)) : W p l e R s m args below meth c H locs cells slots (MQ below (QI D post A) args s mc ms A) (F0 m pc ls []) :=
  W.widen h1 h2 (W.vret hC.1 hC.2.1 hC.2.2.2.2.2.2.2.1 (fun t ht _ => ⟨⟨r, rfl, trivial, by rw [ht]; exact hW.1, hW.2.1⟩, hW.2.2.F ht⟩) hW.2.2.2.2 hdg (hlocks := hC.2.2.2.2.2.2.2.2))
theorem Wi.obj' (hC : Cx own cc nL rt D cA p s m args meth c) {idx : Nat} {a : Nat} (w1 : Cond.methodLink own idx objectInit ∈ lw_good) (w2 : Cond.instanceMethod objectInit ∈ lw_good) (w3 : Cond.code objectInit ⟨#[0xb1]⟩ 1 none ∈ lw_good) (hls : ls.size = nL) (hdg : decode cc pc = .ok (.invokespecial idx, 3)) (hf : 1 ≤ R.frames) (hloc : 20 ≤ R.locals)
    (kk : W p l e R s m args below meth c H locs cells slots Q (F0 m (pc + 3) ls [])) : W p l e R s m args below meth c H locs cells slots Q (F0 m pc ls [.ref a]) :=
  Wi.obj hC w1 w2 w3 hls hdg hf (Nat.le_trans (Nat.add_le_add_right (lv_room (st := []) (by decide)) 12) hloc) kk
theorem Wi.get (hC : Cx own cc nL rt D cA p s m args meth c) {h0 ci : Nat} {fs : List Value} (hW : Wi D A s ((h0, .inr (ci, fs)) :: ws) H locs) (k : Nat) {T : u_T} {NN index : Nat} (hin : ∀ w ∈ u_ws own T NN, w ∈ lw_good) (hcl : classes[ci]? = some (own, T, NN)) (hk : k < NN) (w : Cond.fieldLink own index own (T k).2.1 (T k).2.2.1 ∈ lw_good) (hd0 : (T k).1 = own) {v : Value} (hv : fs[k]? = some v) (hdg : decode cc pc = .ok (.getfield index, 3))
    (kk : W p l e R s m args below meth c H locs cells slots Q (F0 m (pc + 3) ls (v :: rest))) : W p l e R s m args below meth c H locs cells slots Q (F0 m pc ls (.ref h0 :: rest)) :=
  va_get hC.1 hC.2.1 hC.2.2.2.2.1 hin hC.2.2.2.1 hC.2.2.2.2.2.2.1 hW.1 0 rfl hcl k hk (hC.2.2.2.2.1 _ w) (fun _ h => by rw [hd0] at h; exact h) hv hdg kk
theorem Wi.astq (hC : Cx own cc nL rt D cA p s m args meth c) {wA wT w : va_W} {a n v : Nat} {vs : List Value} {f : Nat → Option Nat} (hW : Wi D A s ((wA ++ ((a, .inl (cA 6, n, .inr (.inr (.inr (.inr f))))) :: wT)) ++ ((v, .inr (6, vs)) :: w)) H locs) {i : Int32} (hin : vp_in i n) (hdg : decode cc pc = .ok (.aastore, 1))
    (kk : ∀ (H : Heap) (locs : List Loc), Wi D A s (wA ++ ((a, .inl (cA 6, n, .inr (.inr (.inr (.inr (va_up f i.toNatClampNeg (some v))))))) :: (wT ++ ((v, .inr (6, vs)) :: w)))) H locs → W p l e R s m args below meth c H locs cells slots Q (F0 m (pc + 1) ls rest)) : W p l e R s m args below meth c H locs cells slots Q (F0 m pc ls (.ref v :: .int i :: .ref a :: rest)) := by
  have e0 : ∀ x : Nat × va_E, (wA ++ (x :: wT)) ++ ((v, .inr (6, vs)) :: w) = wA ++ (x :: (wT ++ ((v, .inr (6, vs)) :: w))) := fun x => by simp
  rw [e0] at hW
  refine va_astq hC.1 hC.2.1 hC.2.2.2.2.2.2.1 hW.1 hW.2.1 hW.2.2 wA.length 6 (wA.length + 1 + wT.length) 6 (r := (RX6, TX6, 7)) (f := f) (by rw [List.getElem?_append_right (Nat.le_refl _), Nat.sub_self]; rfl) rfl (by
    rw [List.getElem?_append_right (by omega), show wA.length + 1 + wT.length - wA.length = wT.length + 1 by omega, List.getElem?_cons_succ, List.getElem?_append_right (Nat.le_refl _), Nat.sub_self]; rfl) rfl hin hdg (fun H1 locs1 h1 h2 h3 => kk H1 locs1 ?_)
  have e1 : ∀ x y : Nat × va_E, ∀ z : va_W, (wA ++ (x :: z)).set wA.length y = wA ++ (y :: z) := fun x y z => by
    rw [List.set_append_right _ _ (Nat.le_refl _), Nat.sub_self]; rfl
  rw [e1] at h1 h2
  exact ⟨h1, h2, h3⟩
theorem Wi.newaC {x : Nat × va_E} (hC : Cx own cc nL rt D cA p s m args meth c) (hA : ∀ q, s.heap.size ≤ q → A q) (hW : Wi D A s (x :: ws) H locs) (t : Nat) {ty : FieldType} {atype : ArrayType} (ht : (tysOf cA)[t]? = some (cA t, ty)) (hat : newarray.typeOf atype = ty) (w : Cond.arrayClass ty ∈ lw_good) {n : Int32} {N' : Nat} (a0 : vp_A) (ha : ∀ c : ClassId, vp_cell c a0 = arrV c N' (fun _ => defaultValue ty)) (hn : ¬ n < 0) (hN : n.toNatClampNeg = N') (hbytes : N' * componentBytes ty ≤ 536870912) (hcells : cells + 1 ≤ R.cells) (hslots : slots + N' ≤ R.slots) (hdg : decode cc pc = .ok (.newarray atype, 2))
    (kk : ∀ (q : Nat) (H : Heap), Wi D A s (x :: (ws ++ [(q, .inl (cA t, a0))])) H locs → W p l e R s m args below meth c H locs (cells + 1) (slots + N') Q (F0 m (pc + 2) ls (.ref q :: rest))) : W p l e R s m args below meth c H locs cells slots Q (F0 m pc ls (.int n :: rest)) :=
  Wi.newa hC hA hW t ht hat w a0 ha hn hN hbytes hcells hslots hdg (fun q H h => kk q H h)
theorem Wi.mnaC {x : Nat × va_E} (hC : Cx own cc nL rt D cA p s m args meth c) (hA : ∀ q, s.heap.size ≤ q → A q) (hW : Wi D A s (x :: ws) H locs) (t u : Nat) {index : Nat} {ty : FieldType} (hover : va_AOA ty s) (ht : (tysOf cA)[t]? = some (cA t, .array ty)) (hu : (tysOf cA)[u]? = some (cA u, ty)) (w1 : Cond.classLink own index ("[" ++ (FieldType.array ty).toString) ∈ lw_good) (w2 : Cond.arrayClass ty ∈ lw_good) (hcy : va_RA s (cA u) ty → s.vm.findClass (FieldType.array ty).toString = some (cA u)) {n k : Int32} {N' K' : Nat} (z : vp_A) (hn : ¬ n < 0) (hk : ¬ k < 0) (hN : n.toNatClampNeg = N') (hM : k.toNatClampNeg = K')
    (hb1 : N' * 4 ≤ 536870912) (hb2 : K' * componentBytes ty ≤ 536870912) (hb3 : K' ≤ 536870912) (hdf : fits ty (defaultValue ty) = true) (hdd : (defaultValue ty).isDefault = true) (hcells : cells + (1 + N') ≤ R.cells) (hslots : slots + (N' + N' * K') ≤ R.slots) (hz : ∀ c : ClassId, Jvm.Free.Multi.innerC c K' (defaultValue ty) = vp_cell c z) (hdg : decode cc pc = .ok (.multianewarray index 2, 4))
    (kk : ∀ (q : Nat) (r : Nat → Nat) (H : Heap), Wi D A s (x :: (ws ++ ((q, .inl (cA t, N', .inr (.inr (.inr (.inr (fun i => if i < N' then some (r i) else none)))))) :: (List.range N').map (fun i => (r i, .inl (cA u, z)))))) H locs → W p l e R s m args below meth c H locs (cells + 1 + N') (slots + N' + N' * K') Q (F0 m (pc + 4) ls (.ref q :: rest))) : W p l e R s m args below meth c H locs cells slots Q (F0 m pc ls (.int k :: .int n :: rest)) :=
  Wi.mna hC hA hW t u hover ht hu w1 w2 hcy z hn hk hN hM hb1 hb2 hb3 hdf hdd hcells hslots hz hdg (fun q r H h => kk q r H h)
theorem Wi.newC {x : Nat × va_E} (hC : Cx own cc nL rt D cA p s m args meth c) (hA : ∀ q, s.heap.size ≤ q → A q) (hW : Wi D A s (x :: ws) H locs) {C : String} {T : u_T} {NN ci index : Nat} (hin : ∀ w ∈ u_ws C T NN, w ∈ lw_good) (ty : Nat → FieldType) (hty : ∀ k, k < NN → parseFieldDescriptor (T k).2.2.1 = some (ty k)) (w1 : Cond.classLink own index C ∈ lw_good) (w2 : Cond.instantiable C NN ∈ lw_good) (w3 : Cond.initialized C ∈ lw_good) (hcl : classes[ci]? = some (C, T, NN)) (fs : List Value) (hfs : ∀ j, j < NN → defaultValue (ty j) = vp_V fs j) (hcells : cells + 1 ≤ R.cells) (hslots : slots + NN ≤ R.slots) (hdg : decode cc pc = .ok (.new index, 3))
    (kk : ∀ (q : Nat) (H : Heap), Wi D A s (x :: (ws ++ [(q, .inr (ci, fs))])) H locs → W p l e R s m args below meth c H locs (cells + 1) (slots + NN) Q (F0 m (pc + 3) ls (.ref q :: rest))) : W p l e R s m args below meth c H locs cells slots Q (F0 m pc ls rest) :=
  Wi.new hC hA hW hin ty hty w1 w2 w3 hcl fs hfs hcells hslots hdg (fun q H h => kk q H h)
theorem Wi.callNC {x : Nat × va_E} (hC : Cx own cc nL rt D cA p s m args meth c) (hO : AOs s) (hA : ∀ q, s.heap.size ≤ q → A q) {q ci : Nat} {fs : List Value} (hW : Wi D A s (x :: (ws ++ [(q, .inr (ci, fs))])) H locs) {C host : String} {bytes : ByteArray} {maxL index mc ms : Nat} {rm : Room} {S : Type} {post : S → va_W}
    (hM : MI l D cA ⟨C, "<init>", "()V"⟩ bytes maxL rm q ci fs H.size post mc ms) (w1 : Cond.methodLinkNest own index ⟨C, "<init>", "()V"⟩ host ∈ lw_tbl) (w2 : Cond.instanceMethod ⟨C, "<init>", "()V"⟩ ∈ lw_good) (w4 : Cond.initialized C ∈ lw_good) (w5 : Cond.code ⟨C, "<init>", "()V"⟩ bytes maxL none ∈ lw_good)
    (hrm : rm.cells = mc ∧ rm.slots = ms) (hd : C ≠ "java/lang/invoke/MethodHandle" ∧ C ≠ "java/lang/invoke/VarHandle" ∧ (parseMethodDescriptor "()V").map (fun d => d.parameters.length) = some 0) (hR : rm.frames + 1 ≤ R.frames ∧ 8 + (maxL + 11) + rm.locals ≤ R.locals) (hcs : cells + mc ≤ R.cells ∧ slots + ms ≤ R.slots) (hls : ls.size = nL) (hrest : (rest.map fun v => v.category).sum ≤ 8) (hdg : decode cc pc = .ok (.invokespecial index, 3))
    (kk : ∀ (r : S) (H : Heap) (locs : List Loc), Wi D A s (x :: (ws ++ post r)) H locs → W p l e R s m args below meth c H locs (cells + mc) (slots + ms) Q (F0 m (pc + 3) ls rest)) : W p l e R s m args below meth c H locs cells slots Q (F0 m pc ls (.ref q :: rest)) :=
  Wi.callN (ws := x :: ws) hC hO hA hW hM w1 w2 w4 w5 hrm hd hR hcs hls hrest hdg (fun r H locs h => kk r H locs h)
theorem Wi.putFS (hC : Cx own cc nL rt D cA p s m args meth c) (hi : meth.name = "<init>") {h0 ci : Nat} {fs : List Value} (hW : Wi D A s ((h0, .inr (ci, fs)) :: ws) H locs) (k : Nat) {T : u_T} {NN index : Nat} {ty0 : Nat → FieldType} {ty : FieldType} {v : Value} (hin : ∀ w ∈ u_ws own T NN, w ∈ lw_good) (hty : ∀ k, k < NN → parseFieldDescriptor (T k).2.2.1 = some (ty0 k)) (hnm : ∀ a, a < NN → ∀ b, b < NN → a ≠ b → (T a).2.1 ≠ (T b).2.1) (hcl : classes[ci]? = some (own, T, NN)) (hk : k < NN) (w : Cond.fieldLink own index own (T k).2.1 (T k).2.2.1 ∈ lw_good) (hd0 : (T k).1 = own) (hfin : (T k).2.2.2 = true) (hd : parseFieldDescriptor (T k).2.2.1 = some ty) (hn : narrow ty v = v) (hfit : fits ty v = true) (hl : k < fs.length) {fs' : List Value} (hs : fs.set k v = fs') (hdg : decode cc pc = .ok (.putfield index, 3))
    (kk : ∀ (H : Heap) (locs : List Loc), Wi D A s ((h0, .inr (ci, fs')) :: ws) H locs → W p l e R s m args below meth c H locs cells slots Q (F0 m (pc + 3) ls rest)) : W p l e R s m args below meth c H locs cells slots Q (F0 m pc ls (v :: .ref h0 :: rest)) := by
  subst hs
  exact Wi.putF hC hi hW k hin hty hnm hcl hk w hd0 hfin hd hn hfit hl hdg kk
theorem Wi.putS (hC : Cx own cc nL rt D cA p s m args meth c) {h0 ci : Nat} {fs : List Value} (hW : Wi D A s ((h0, .inr (ci, fs)) :: ws) H locs) (k : Nat) {T : u_T} {NN index : Nat} {ty0 : Nat → FieldType} {ty : FieldType} {v : Value} (hin : ∀ w ∈ u_ws own T NN, w ∈ lw_good) (hty : ∀ k, k < NN → parseFieldDescriptor (T k).2.2.1 = some (ty0 k)) (hnm : ∀ a, a < NN → ∀ b, b < NN → a ≠ b → (T a).2.1 ≠ (T b).2.1) (hcl : classes[ci]? = some (own, T, NN)) (hk : k < NN) (w : Cond.fieldLink own index own (T k).2.1 (T k).2.2.1 ∈ lw_good) (hd0 : (T k).1 = own) (hfin : (T k).2.2.2 = false) (hd : parseFieldDescriptor (T k).2.2.1 = some ty) (hn : narrow ty v = v) (hfit : fits ty v = true) (hl : k < fs.length) {fs' : List Value} (hs : fs.set k v = fs') (hdg : decode cc pc = .ok (.putfield index, 3))
    (kk : ∀ (H : Heap) (locs : List Loc), Wi D A s ((h0, .inr (ci, fs')) :: ws) H locs → W p l e R s m args below meth c H locs cells slots Q (F0 m (pc + 3) ls rest)) : W p l e R s m args below meth c H locs cells slots Q (F0 m pc ls (v :: .ref h0 :: rest)) := by
  subst hs
  exact Wi.put hC hW k hin hty hnm hcl hk w hd0 hfin hd hn hfit hl hdg kk
end KIT
