/-! MY WORLD: cells by number. A state is two tables: the ints and the longs of each cell (fields of an object, places of an array). -/
abbrev St : Type := (Nat → Nat → Int32) × (Nat → Nat → Int64)
def sI (σ : St) (c k : Nat) (v : Int32) : St := (fun a b => if a = c ∧ b = k then v else σ.1 a b, σ.2)
def sJ (σ : St) (c k : Nat) (v : Int64) : St := (σ.1, fun a b => if a = c ∧ b = k then v else σ.2 a b)
/-- a cell's kind: an array (code of its type, length, first cell and stride of what it refers to), or an object (its class's number, its fields: 0 an int, 1 a long, q + 2 the cell q) -/
abbrev Kd : Type := (Nat × Nat × Nat × Nat) ⊕ (Nat × List Nat)
def fvl (ad : Nat → Nat) (fI : Nat → Int32) (fJ : Nat → Int64) : Nat → List Nat → List Value
  | _, [] => []
  | k, 0 :: fl => .int (fI k) :: fvl ad fI fJ (k + 1) fl
  | k, 1 :: fl => .long (fJ k) :: fvl ad fI fJ (k + 1) fl
  | k, (q + 2) :: fl => .ref (ad q) :: fvl ad fI fJ (k + 1) fl
def fv1 (ad : Nat → Nat) (fI : Nat → Int32) (fJ : Nat → Int64) (k : Nat) : Nat → Value
  | 0 => .int (fI k)
  | 1 => .long (fJ k)
  | q + 2 => .ref (ad q)
theorem fvl_get {ad : Nat → Nat} {fI : Nat → Int32} {fJ : Nat → Int64} : ∀ (fl : List Nat) (o k : Nat), (fvl ad fI fJ o fl)[k]? = (fl[k]?).map (fv1 ad fI fJ (o + k))
  | [], _, _ => by simp [fvl]
  | f :: fl, o, 0 => by
    match f with
    | 0 => simp [fvl, fv1]
    | 1 => simp [fvl, fv1]
    | q + 2 => simp [fvl, fv1]
  | f :: fl, o, k + 1 => by
    have ih := fvl_get (ad := ad) (fI := fI) (fJ := fJ) fl (o + 1) k
    have e : o + 1 + k = o + (k + 1) := by omega
    rw [e] at ih
    match f with
    | 0 => simpa [fvl] using ih
    | 1 => simpa [fvl] using ih
    | q + 2 => simpa [fvl] using ih
theorem fvl_len {ad : Nat → Nat} {fI : Nat → Int32} {fJ : Nat → Int64} : ∀ (fl : List Nat) (o : Nat), (fvl ad fI fJ o fl).length = fl.length
  | [], _ => rfl
  | f :: fl, o => by
    have ih := fvl_len (ad := ad) (fI := fI) (fJ := fJ) fl (o + 1)
    match f with
    | 0 => simp [fvl, ih]
    | 1 => simp [fvl, ih]
    | q + 2 => simp [fvl, ih]
theorem fvl_setI {ad : Nat → Nat} {fI : Nat → Int32} {fJ : Nat → Int64} {fl : List Nat} {k : Nat} {v : Int32} (h : fl[k]? = some 0) : (fvl ad fI fJ 0 fl).set k (.int v) = fvl ad (upd fI k v) fJ 0 fl := by
  apply List.ext_getElem?
  intro i
  rw [List.getElem?_set]
  by_cases hi : k = i
  · subst hi
    have hk : k < (fvl ad fI fJ 0 fl).length := by rw [fvl_len]; exact (List.getElem?_eq_some_iff.mp h).1
    rw [fvl_get (ad := ad) (fI := upd fI k v), h]
    simp [hk, fv1, upd]
  · rw [fvl_get, fvl_get]
    simp only [hi, if_false]
    cases fl[i]? with
    | none => rfl
    | some f =>
      match f with
      | 0 => simp [fv1, upd, Ne.symm hi]
      | 1 => rfl
      | q + 2 => rfl
theorem fvl_setJ {ad : Nat → Nat} {fI : Nat → Int32} {fJ : Nat → Int64} {fl : List Nat} {k : Nat} {v : Int64} (h : fl[k]? = some 1) : (fvl ad fI fJ 0 fl).set k (.long v) = fvl ad fI (vp_updL fJ k v) 0 fl := by
  apply List.ext_getElem?
  intro i
  rw [List.getElem?_set]
  by_cases hi : k = i
  · subst hi
    have hk : k < (fvl ad fI fJ 0 fl).length := by rw [fvl_len]; exact (List.getElem?_eq_some_iff.mp h).1
    rw [fvl_get (ad := ad) (fJ := vp_updL fJ k v), h]
    simp [hk, fv1, vp_updL]
  · rw [fvl_get, fvl_get]
    simp only [hi, if_false]
    cases fl[i]? with
    | none => rfl
    | some f =>
      match f with
      | 0 => rfl
      | 1 => simp [fv1, vp_updL, Ne.symm hi]
      | q + 2 => rfl
def ent1 (ad : Nat → Nat) (cA : Nat → ClassId) (fI : Nat → Int32) (fJ : Nat → Int64) : Kd → va_E
  | .inl (ty, n, b, st) => .inl (cA ty, n, if ty = 3 then .inr (.inl fJ) else if ty < 3 then .inl fI else .inr (.inr (.inr (.inr (fun j => if j < n then some (ad (b + st * j)) else none)))))
  | .inr (ci, fl) => .inr (ci, fvl ad fI fJ 0 fl)
def ent (kd : Nat → Kd) (ad : Nat → Nat) (cA : Nat → ClassId) (σ : St) (c : Nat) : va_E := ent1 ad cA (σ.1 c) (σ.2 c) (kd c)
def wl (kd : Nat → Kd) (N : Nat) (ad : Nat → Nat) (cA : Nat → ClassId) (σ : St) : va_W := (List.range N).map (fun c => (ad c, ent kd ad cA σ c))
theorem wl_get {kd : Nat → Kd} {N : Nat} {ad : Nat → Nat} {cA : Nat → ClassId} {σ : St} {c : Nat} (h : c < N) : (wl kd N ad cA σ)[c]? = some (ad c, ent kd ad cA σ c) := by simp [wl, h]
theorem wl_set {kd : Nat → Kd} {N : Nat} {ad : Nat → Nat} {cA : Nat → ClassId} {σ σ' : St} {c : Nat} {e : va_E} (h : c < N) (he : e = ent kd ad cA σ' c) (ho : ∀ a, a ≠ c → ent kd ad cA σ' a = ent kd ad cA σ a) : (wl kd N ad cA σ).set c (ad c, e) = wl kd N ad cA σ' := by
  apply List.ext_getElem?
  intro i
  rw [List.getElem?_set]
  by_cases hi : c = i
  · subst hi
    simp [wl, h, he]
  · simp only [hi, if_false]
    by_cases hN : i < N
    · simp [wl, hN, ho i (Ne.symm hi)]
    · simp [wl, hN]
theorem sI_row {σ : St} {c k : Nat} {v : Int32} : (sI σ c k v).1 c = upd (σ.1 c) k v := by funext j; simp [sI, upd]
theorem sI_ne {σ : St} {c k a : Nat} {v : Int32} (h : a ≠ c) : (sI σ c k v).1 a = σ.1 a := by funext j; simp [sI, h]
theorem sJ_row {σ : St} {c k : Nat} {v : Int64} : (sJ σ c k v).2 c = vp_updL (σ.2 c) k v := by funext j; simp [sJ, vp_updL]
theorem sJ_ne {σ : St} {c k a : Nat} {v : Int64} (h : a ≠ c) : (sJ σ c k v).2 a = σ.2 a := by funext j; simp [sJ, h]
theorem ent_sI {kd : Nat → Kd} {ad : Nat → Nat} {cA : Nat → ClassId} {σ : St} {c k a : Nat} {v : Int32} (h : a ≠ c) : ent kd ad cA (sI σ c k v) a = ent kd ad cA σ a := by
  unfold ent; rw [sI_ne h]; rfl
theorem ent_sJ {kd : Nat → Kd} {ad : Nat → Nat} {cA : Nat → ClassId} {σ : St} {c k a : Nat} {v : Int64} (h : a ≠ c) : ent kd ad cA (sJ σ c k v) a = ent kd ad cA σ a := by
  unfold ent; rw [sJ_ne h]; rfl
/-! words: the good ones go down with the calls, the nest's go in the worlds -/
def nestW : Cond → Bool
  | .fieldLinkNest _ _ _ _ _ _ => true
  | .methodLinkNest _ _ _ _ => true
  | _ => false
def Nws (U : State) : Prop := ∀ w ∈ lw_tbl, nestW w = true → va_Nw w U
theorem Nws.warm {s U : State} (hW : s.WarmedH U.vm) (h : Nws s) : Nws U := by
  intro w hw hn
  cases w <;> first | exact va_Nw.warmF hW (h _ hw rfl) | exact va_Nw.warmM hW (h _ hw rfl) | exact absurd hn (by simp [nestW])
theorem Nws.same {u U : State} (e : u.vm = U.vm) (h : Nws u) : Nws U := by
  intro w hw hn
  cases w <;> first | exact va_Nw.same rfl e (h _ hw rfl) | exact absurd hn (by simp [nestW])
theorem Nws.of {args : Array Value} {s : State} (hts : ∀ w ∈ lw_tbl, w.before args s = true) : Nws s := by
  intro w hw hn
  cases w <;> first | exact va_Nw.of rfl (hts _ hw) | exact absurd hn (by simp [nestW])
def lw_good : List Cond := lw_tbl.filter goodWord
theorem lw_gt : ∀ w ∈ lw_good, w ∈ lw_tbl := fun _ h => (List.mem_filter.mp h).1
def wc (y : MethodName) (cc : ByteArray) (nL : Nat) (rt : Option FieldType) : List Cond := .code y cc nL rt :: lw_good
theorem wc_good {y : MethodName} {cc : ByteArray} {nL : Nat} {rt : Option FieldType} (h : Cond.code y cc nL rt ∈ lw_good) : GoodIn lw_good (wc y cc nL rt) := by
  intro w hw
  have hg : w ∈ lw_good := by
    rcases List.mem_cons.mp hw with e | e
    · subst e; exact h
    · exact e
  exact ⟨hg, good_of_word (List.mem_filter.mp hg).2⟩
abbrev classes : List vw_C := [(RX0, TX0, 2), (RX1, TX1, 15), (RX0, TX0, 2), (RX3, TX3, 4), (RX4, TX4, 6), (RX5, TX5, 3), (RX6, TX6, 7), (RX7, TX7, 6), (RX8, TX8, 39)]
abbrev tysOf (cA : Nat → ClassId) : List (ClassId × FieldType) := [(cA 0, .int), (cA 1, .byte), (cA 2, .boolean), (cA 3, .long), (cA 4, .array .int), (cA 5, .array .long), (cA 6, .object "DendroDesk$Tree")]
def Aw (N : Nat) (ad : Nat → Nat) : Nat → Prop := fun q => ∃ c, c < N ∧ q = ad c
def Wd (kd : Nat → Kd) (N : Nat) (D : va_G) (cA : Nat → ClassId) (ad : Nat → Nat) (s : State) (σ : St) (H : Heap) (locs : List Loc) : Prop :=
  va_P D classes (wl kd N ad cA σ) H ∧ va_D (Aw N ad) (wl kd N ad cA σ) ∧ va_S (Aw N ad) s.heap H locs
def PreW (kd : Nat → Kd) (N : Nat) (D : va_G) (cA : Nat → ClassId) (ad : Nat → Nat) (σ : St) (U : State) : Prop :=
  va_P D classes (wl kd N ad cA σ) U.heap ∧ va_K D classes (tysOf cA) U ∧ va_D (Aw N ad) (wl kd N ad cA σ) ∧ Nws U
def QW (kd : Nat → Kd) (N : Nat) (D : va_G) (cA : Nat → ClassId) (ad : Nat → Nat) (rv : Option Value) (σ' : St) : Array Value → State → Outcome → State → Prop := fun _ st oc t =>
  oc = .returned rv ∧ PreW kd N D cA ad σ' t ∧ va_F (Aw N ad) st t
/-- the contract: from the world σ the method returns rv, and the world is σ' -/
def MW (kd : Nat → Kd) (N : Nat) (l : Launch) (D : va_G) (cA : Nat → ClassId) (ad : Nat → Nat) (y : MethodName) (cc : ByteArray) (nL : Nat) (rt : Option FieldType) (rm : Room) (As : List Value) (σ : St) (rv : Option Value) (σ' : St) : Prop :=
  Met l y (wc y cc nL rt) rm (va_Pc As (PreW kd N D cA ad σ)) (QW kd N D cA ad rv σ') 0 0 (Aw N ad)
def Cx (own : String) (cc : ByteArray) (nL : Nat) (rt : Option FieldType) (D : va_G) (cA : Nat → ClassId) (p : Program) (s : State) (m : MethodId) (args : Array Value) (meth : Method) (c : Code) : Prop :=
  p.tables.exec = Jvm.exec ∧ c.code = cc ∧ c.maxLocals = nL ∧ s.vm.findClass own = some m.cls ∧ (∀ w ∈ lw_good, w.before args s = true) ∧ Nws s ∧ va_K D classes (tysOf cA) s ∧ meth.sig.returnType = rt ∧ meth.locks = false
/-- the end of a method's body -/
abbrev EndW (kd : Nat → Kd) (N : Nat) (D : va_G) (cA : Nat → ClassId) (ad : Nat → Nat) (below : List Frame) (args : Array Value) (s : State) (rv : Option Value) (σ' : St) : State → Prop := MQ below (QW kd N D cA ad rv σ') args s 0 0 (Aw N ad)
theorem PreW.blind {kd : Nat → Kd} {N : Nat} {D : va_G} {cA : Nat → ClassId} {ad : Nat → Nat} {σ : St} {As : List Value} : FrameBlind (va_Pc As (PreW kd N D cA ad σ)) := by
  intro a U g mk q
  obtain ⟨h0, hP, hK, hD, hN⟩ := q
  exact ⟨h0, hP, va_K.moved (u := U) (U := U.calling g mk a) (Vm.Alike.refl U.vm) hK, hD, Nws.same (u := U) (U := U.calling g mk a) rfl hN⟩
theorem MW.of {kd : Nat → Kd} {N : Nat} {l : Launch} {D : va_G} {cA : Nat → ClassId} {ad : Nat → Nat} {own nm ds : String} {cc : ByteArray} {nL : Nat} {rt : Option FieldType} {rm : Room} {As : List Value} {σ : St} {rv : Option Value} {σ' : St}
    (hy : plainName own = true) (hn : (lg_sl As).length ≤ nL)
    (body : ∀ p e s m args below meth c ls, Cx own cc nL rt D cA p s m args meth c → Wd kd N D cA ad s σ s.heap [] → lv_has ls nL (lv_args 0 As) →
      W p l e rm s m args below meth c s.heap [] 0 0 (EndW kd N D cA ad below args s rv σ') (F0 m 0 ls [])) : MW kd N l D cA ad ⟨own, nm, ds⟩ cc nL rt rm As σ rv σ' := by
  refine Met.ofW (cc := cc) (maxL := nL) (ret := rt) hy rfl ?_
  intro p e s m args below meth c s₁ B hml hv
  obtain ⟨rfl, hP, hK, hD, hNw⟩ := hv
  have hts := atoms_spec (ws := wc ⟨own, nm, ds⟩ cc nL rt) B.pre
  have hown : s.vm.findClass own = some m.cls := findClass_of_methodNamed B.named
  rw [lg_entry_eq]
  exact body p e s m _ below meth c _ ⟨B.exec, B.bytes, hml, hown, fun w hw => hts w (List.mem_cons_of_mem _ hw), hNw, hK, B.returns, B.notSynchronized⟩ ⟨hP, hD, va_S.rf⟩ (lv_entry As hn)
theorem MW.ofF {kd : Nat → Kd} {N : Nat} {l : Launch} {D : va_G} {cA : Nat → ClassId} {ad : Nat → Nat} {own nm ds : String} {cc : ByteArray} {nL : Nat} {rt : Option FieldType} {rm : Room} {As : List Value} {σ : St} {rv : Option Value} {σ' : St}
    (hy : plainFor ⟨own, nm, ds⟩ = true) (hn : (lg_sl As).length ≤ nL)
    (body : ∀ p e s m args below meth c ls, Cx own cc nL rt D cA p s m args meth c → Wd kd N D cA ad s σ s.heap [] → lv_has ls nL (lv_args 0 As) →
      W p l e rm s m args below meth c s.heap [] 0 0 (EndW kd N D cA ad below args s rv σ') (F0 m 0 ls [])) : MW kd N l D cA ad ⟨own, nm, ds⟩ cc nL rt rm As σ rv σ' := by
  refine va_MetF (cc := cc) (maxL := nL) (ret := rt) hy rfl ?_
  intro p e s m args below meth c s₁ B hml hv
  obtain ⟨rfl, hP, hK, hD, hNw⟩ := hv
  have hts := atoms_spec (ws := wc ⟨own, nm, ds⟩ cc nL rt) B.pre
  have hown : s.vm.findClass own = some m.cls := findClass_of_methodNamed B.named
  rw [lg_entry_eq]
  exact body p e s m _ below meth c _ ⟨B.exec, B.bytes, hml, hown, fun w hw => hts w (List.mem_cons_of_mem _ hw), hNw, hK, B.returns, B.notSynchronized⟩ ⟨hP, hD, va_S.rf⟩ (lv_entry As hn)
section KIT
variable {kd : Nat → Kd} {N : Nat} {D : va_G} {cA : Nat → ClassId} {ad : Nat → Nat} {σ σ' : St}
variable {p : Program} {l : Launch} {e : Env} {R : Room} {s : State} {m : MethodId} {args : Array Value} {below : List Frame} {meth : Method} {c : Code} {H : Heap} {locs : List Loc} {Q : State → Prop} {cells slots : Nat}
variable {own : String} {cc : ByteArray} {nL : Nat} {rt : Option FieldType} {pc : Nat} {ls : Array Slot} {rest st : List Value}
/-- places -/
def ib (i : Int32) (n : Nat) : Bool := decide (¬ (i < 0 ∨ n ≤ i.toNatClampNeg))
theorem ib_in {i : Int32} {n : Nat} (h : ib i n = true) : vp_in i n := by
  unfold ib at h
  have h2 : ¬ (i < 0 ∨ n ≤ i.toNatClampNeg) := of_decide_eq_true h
  exact h2
theorem Wd.iald (hC : Cx own cc nL rt D cA p s m args meth c) (hW : Wd kd N D cA ad s σ H locs) (b : Nat) {n x y : Nat} (hb : b < N) (hkd : kd b = .inl (0, n, x, y)) {i : Int32} (hin : ib i n = true) (hdg : decode cc pc = .ok (.iaload, 1))
    (kk : W p l e R s m args below meth c H locs cells slots Q (F0 m (pc + 1) ls (.int (σ.1 b i.toNatClampNeg) :: rest))) : W p l e R s m args below meth c H locs cells slots Q (F0 m pc ls (.int i :: .ref (ad b) :: rest)) :=
  va_iald hC.1 hC.2.1 hC.2.2.2.2.2.2.1 hW.1 b 0 (n := n) (f := σ.1 b) (by rw [wl_get hb]; unfold ent; rw [hkd]; rfl) rfl (ib_in hin) hdg kk
theorem Wd.bald (hC : Cx own cc nL rt D cA p s m args meth c) (hW : Wd kd N D cA ad s σ H locs) (b : Nat) {n x y : Nat} (hb : b < N) (hkd : kd b = .inl (1, n, x, y)) {i : Int32} (hin : ib i n = true) (hdg : decode cc pc = .ok (.baload, 1))
    (kk : W p l e R s m args below meth c H locs cells slots Q (F0 m (pc + 1) ls (.int (σ.1 b i.toNatClampNeg) :: rest))) : W p l e R s m args below meth c H locs cells slots Q (F0 m pc ls (.int i :: .ref (ad b) :: rest)) :=
  va_bald hC.1 hC.2.1 hC.2.2.2.2.2.2.1 hW.1 b 1 (n := n) (f := σ.1 b) (by rw [wl_get hb]; unfold ent; rw [hkd]; rfl) rfl (ib_in hin) hdg kk
theorem Wd.zald (hC : Cx own cc nL rt D cA p s m args meth c) (hW : Wd kd N D cA ad s σ H locs) (b : Nat) {n x y : Nat} (hb : b < N) (hkd : kd b = .inl (2, n, x, y)) {i : Int32} (hin : ib i n = true) (hdg : decode cc pc = .ok (.baload, 1))
    (kk : W p l e R s m args below meth c H locs cells slots Q (F0 m (pc + 1) ls (.int (σ.1 b i.toNatClampNeg) :: rest))) : W p l e R s m args below meth c H locs cells slots Q (F0 m pc ls (.int i :: .ref (ad b) :: rest)) :=
  va_zald hC.1 hC.2.1 hC.2.2.2.2.2.2.1 hW.1 b 2 (n := n) (f := σ.1 b) (by rw [wl_get hb]; unfold ent; rw [hkd]; rfl) rfl (ib_in hin) hdg kk
theorem Wd.lald (hC : Cx own cc nL rt D cA p s m args meth c) (hW : Wd kd N D cA ad s σ H locs) (b : Nat) {n x y : Nat} (hb : b < N) (hkd : kd b = .inl (3, n, x, y)) {i : Int32} (hin : ib i n = true) (hdg : decode cc pc = .ok (.laload, 1))
    (kk : W p l e R s m args below meth c H locs cells slots Q (F0 m (pc + 1) ls (.long (σ.2 b i.toNatClampNeg) :: rest))) : W p l e R s m args below meth c H locs cells slots Q (F0 m pc ls (.int i :: .ref (ad b) :: rest)) :=
  va_lald hC.1 hC.2.1 hC.2.2.2.2.2.2.1 hW.1 b 3 (n := n) (f := σ.2 b) (by rw [wl_get hb]; unfold ent; rw [hkd]; rfl) rfl (ib_in hin) hdg kk
/-- a place of an array of references -/
theorem Wd.aald (hC : Cx own cc nL rt D cA p s m args meth c) (hW : Wd kd N D cA ad s σ H locs) (b : Nat) {ty n x y : Nat} (hty : 3 < ty ∧ ty < 7) (hb : b < N) (hkd : kd b = .inl (ty, n, x, y)) {i : Int32} (hin : ib i n = true) (hdg : decode cc pc = .ok (.aaload, 1))
    (kk : W p l e R s m args below meth c H locs cells slots Q (F0 m (pc + 1) ls (.ref (ad (x + y * i.toNatClampNeg)) :: rest))) : W p l e R s m args below meth c H locs cells slots Q (F0 m pc ls (.int i :: .ref (ad b) :: rest)) := by
  have hvi := ib_in hin
  have hlt : i.toNatClampNeg < n := Nat.not_le.mp fun q => hvi (Or.inr q)
  have hK := hC.2.2.2.2.2.2.1
  have ha : (wl kd N ad cA σ)[b]? = some (ad b, .inl (cA ty, n, .inr (.inr (.inr (.inr (fun j => if j < n then some (ad (x + y * j)) else none)))))) := by
    rw [wl_get hb]; unfold ent; rw [hkd]; simp [ent1, show ¬ ty = 3 by omega, show ¬ ty < 3 by omega]
  have h4 : ty = 4 ∨ ty = 5 ∨ ty = 6 := by omega
  have hv : va_rf ((fun j => if j < n then some (ad (x + y * j)) else none) i.toNatClampNeg) = .ref (ad (x + y * i.toNatClampNeg)) := by simp [hlt, va_rf]
  rcases h4 with rfl | rfl | rfl
  · refine W.aald (v := .ref (ad (x + y * i.toNatClampNeg))) (ty := .array .int) hC.1 hC.2.1 (hW.1 b _ ha) ((hK.2 4 _ rfl).1 n (fun j => va_rf (if j < n then some (ad (x + y * j)) else none))) rfl (fun q => by cases q) (by show ¬ (i < 0 ∨ (arrV _ _ _).slots.size ≤ _); rw [arrV_size]; exact hvi) (by show (arrV _ _ _).slots[_]? = _; rw [arrV_read _ _ hlt, ← hv]) rfl rfl hdg kk
  · refine W.aald (v := .ref (ad (x + y * i.toNatClampNeg))) (ty := .array .long) hC.1 hC.2.1 (hW.1 b _ ha) ((hK.2 5 _ rfl).1 n (fun j => va_rf (if j < n then some (ad (x + y * j)) else none))) rfl (fun q => by cases q) (by show ¬ (i < 0 ∨ (arrV _ _ _).slots.size ≤ _); rw [arrV_size]; exact hvi) (by show (arrV _ _ _).slots[_]? = _; rw [arrV_read _ _ hlt, ← hv]) rfl rfl hdg kk
  · refine W.aald (v := .ref (ad (x + y * i.toNatClampNeg))) (ty := .object "DendroDesk$Tree") hC.1 hC.2.1 (hW.1 b _ ha) ((hK.2 6 _ rfl).1 n (fun j => va_rf (if j < n then some (ad (x + y * j)) else none))) rfl (fun q => by cases q) (by show ¬ (i < 0 ∨ (arrV _ _ _).slots.size ≤ _); rw [arrV_size]; exact hvi) (by show (arrV _ _ _).slots[_]? = _; rw [arrV_read _ _ hlt, ← hv]) rfl rfl hdg kk
theorem Wd.iast (hC : Cx own cc nL rt D cA p s m args meth c) (hW : Wd kd N D cA ad s σ H locs) (b : Nat) {n x y : Nat} (hb : b < N) (hkd : kd b = .inl (0, n, x, y)) {i v : Int32} (hin : ib i n = true) (hdg : decode cc pc = .ok (.iastore, 1))
    (kk : ∀ (H : Heap) (locs : List Loc), Wd kd N D cA ad s (sI σ b i.toNatClampNeg v) H locs → W p l e R s m args below meth c H locs cells slots Q (F0 m (pc + 1) ls rest)) : W p l e R s m args below meth c H locs cells slots Q (F0 m pc ls (.int v :: .int i :: .ref (ad b) :: rest)) := by
  refine va_iast hC.1 hC.2.1 hC.2.2.2.2.2.2.1 hW.1 hW.2.1 hW.2.2 b 0 (n := n) (f := σ.1 b) (by rw [wl_get hb]; unfold ent; rw [hkd]; rfl) rfl (ib_in hin) hdg (fun H1 locs1 h1 h2 h3 => kk H1 locs1 ?_)
  have e : (wl kd N ad cA σ).set b (ad b, .inl (cA 0, n, .inl (upd (σ.1 b) i.toNatClampNeg v))) = wl kd N ad cA (sI σ b i.toNatClampNeg v) := wl_set hb (by unfold ent; rw [hkd, sI_row]; rfl) (fun a ha => ent_sI ha)
  rw [e] at h1 h2
  exact ⟨h1, h2, h3⟩
theorem Wd.bast (hC : Cx own cc nL rt D cA p s m args meth c) (hW : Wd kd N D cA ad s σ H locs) (b : Nat) {n x y : Nat} (hb : b < N) (hkd : kd b = .inl (1, n, x, y)) {i v : Int32} (hin : ib i n = true) (hdg : decode cc pc = .ok (.bastore, 1))
    (kk : ∀ (H : Heap) (locs : List Loc), Wd kd N D cA ad s (sI σ b i.toNatClampNeg v.toInt8.toInt32) H locs → W p l e R s m args below meth c H locs cells slots Q (F0 m (pc + 1) ls rest)) : W p l e R s m args below meth c H locs cells slots Q (F0 m pc ls (.int v :: .int i :: .ref (ad b) :: rest)) := by
  refine va_bast hC.1 hC.2.1 hC.2.2.2.2.2.2.1 hW.1 hW.2.1 hW.2.2 b 1 (n := n) (f := σ.1 b) (by rw [wl_get hb]; unfold ent; rw [hkd]; rfl) rfl (ib_in hin) hdg (fun H1 locs1 h1 h2 h3 => kk H1 locs1 ?_)
  have e : (wl kd N ad cA σ).set b (ad b, .inl (cA 1, n, .inl (upd (σ.1 b) i.toNatClampNeg (vp_nar .byte v)))) = wl kd N ad cA (sI σ b i.toNatClampNeg v.toInt8.toInt32) := wl_set hb (by unfold ent; rw [hkd, sI_row, vp_nar_byte]; rfl) (fun a ha => ent_sI ha)
  rw [e] at h1 h2
  exact ⟨h1, h2, h3⟩
theorem Wd.zast (hC : Cx own cc nL rt D cA p s m args meth c) (hW : Wd kd N D cA ad s σ H locs) (b : Nat) {n x y : Nat} (hb : b < N) (hkd : kd b = .inl (2, n, x, y)) {i v : Int32} (hin : ib i n = true) (hdg : decode cc pc = .ok (.bastore, 1))
    (kk : ∀ (H : Heap) (locs : List Loc), Wd kd N D cA ad s (sI σ b i.toNatClampNeg (vp_nar .boolean v)) H locs → W p l e R s m args below meth c H locs cells slots Q (F0 m (pc + 1) ls rest)) : W p l e R s m args below meth c H locs cells slots Q (F0 m pc ls (.int v :: .int i :: .ref (ad b) :: rest)) := by
  refine va_zast hC.1 hC.2.1 hC.2.2.2.2.2.2.1 hW.1 hW.2.1 hW.2.2 b 2 (n := n) (f := σ.1 b) (by rw [wl_get hb]; unfold ent; rw [hkd]; rfl) rfl (ib_in hin) hdg (fun H1 locs1 h1 h2 h3 => kk H1 locs1 ?_)
  have e : (wl kd N ad cA σ).set b (ad b, .inl (cA 2, n, .inl (upd (σ.1 b) i.toNatClampNeg (vp_nar .boolean v)))) = wl kd N ad cA (sI σ b i.toNatClampNeg (vp_nar .boolean v)) := wl_set hb (by unfold ent; rw [hkd, sI_row]; rfl) (fun a ha => ent_sI ha)
  rw [e] at h1 h2
  exact ⟨h1, h2, h3⟩
theorem Wd.last (hC : Cx own cc nL rt D cA p s m args meth c) (hW : Wd kd N D cA ad s σ H locs) (b : Nat) {n x y : Nat} (hb : b < N) (hkd : kd b = .inl (3, n, x, y)) {i : Int32} {v : Int64} (hin : ib i n = true) (hdg : decode cc pc = .ok (.lastore, 1))
    (kk : ∀ (H : Heap) (locs : List Loc), Wd kd N D cA ad s (sJ σ b i.toNatClampNeg v) H locs → W p l e R s m args below meth c H locs cells slots Q (F0 m (pc + 1) ls rest)) : W p l e R s m args below meth c H locs cells slots Q (F0 m pc ls (.long v :: .int i :: .ref (ad b) :: rest)) := by
  refine va_last hC.1 hC.2.1 hC.2.2.2.2.2.2.1 hW.1 hW.2.1 hW.2.2 b 3 (n := n) (f := σ.2 b) (by rw [wl_get hb]; unfold ent; rw [hkd]; rfl) rfl (ib_in hin) hdg (fun H1 locs1 h1 h2 h3 => kk H1 locs1 ?_)
  have e : (wl kd N ad cA σ).set b (ad b, .inl (cA 3, n, .inr (.inl (vp_updL (σ.2 b) i.toNatClampNeg v)))) = wl kd N ad cA (sJ σ b i.toNatClampNeg v) := wl_set hb (by unfold ent; rw [hkd, sJ_row]; rfl) (fun a ha => ent_sJ ha)
  rw [e] at h1 h2
  exact ⟨h1, h2, h3⟩
theorem Wd.alen (hC : Cx own cc nL rt D cA p s m args meth c) (hW : Wd kd N D cA ad s σ H locs) (b : Nat) {n x y : Nat} (hb : b < N) (hkd : kd b = .inl (0, n, x, y)) (hdg : decode cc pc = .ok (.arraylength, 1))
    (kk : W p l e R s m args below meth c H locs cells slots Q (F0 m (pc + 1) ls (.int (Int32.ofNat n) :: rest))) : W p l e R s m args below meth c H locs cells slots Q (F0 m pc ls (.ref (ad b) :: rest)) :=
  va_alen hC.1 hC.2.1 hC.2.2.2.2.2.2.1 hW.1 b 0 (x := (n, .inl (σ.1 b))) (by rw [wl_get hb]; unfold ent; rw [hkd]; rfl) rfl rfl hdg kk
/-- fields -/
theorem Wd.get (hC : Cx own cc nL rt D cA p s m args meth c) (hW : Wd kd N D cA ad s σ H locs) (b k : Nat) {index ci NN : Nat} {fl : List Nat} {C ref : String} {T : u_T} (hb : b < N) (hkd : kd b = .inr (ci, fl)) (hcl : classes[ci]? = some (C, T, NN)) (hin : ∀ w ∈ u_ws C T NN, w ∈ lw_good) (hk : k < NN) (hlink : Cond.fieldLink own index ref (T k).2.1 (T k).2.2.1 ∈ lw_good) (href : (T k).1 = ref) {f : Nat} (hf : fl[k]? = some f) (hdg : decode cc pc = .ok (.getfield index, 3))
    (kk : W p l e R s m args below meth c H locs cells slots Q (F0 m (pc + 3) ls (fv1 ad (σ.1 b) (σ.2 b) k f :: rest))) : W p l e R s m args below meth c H locs cells slots Q (F0 m pc ls (.ref (ad b) :: rest)) :=
  va_get hC.1 hC.2.1 hC.2.2.2.2.1 hin hC.2.2.2.1 hC.2.2.2.2.2.2.1 hW.1 b (fs := fvl ad (σ.1 b) (σ.2 b) 0 fl) (by rw [wl_get hb]; unfold ent; rw [hkd]; rfl) hcl k hk (hC.2.2.2.2.1 _ hlink) (fun _ h => by rw [← href]; exact h) (v := fv1 ad (σ.1 b) (σ.2 b) k f) (by rw [fvl_get, hf, Nat.zero_add]; rfl) hdg kk
theorem Wd.getN (hC : Cx own cc nL rt D cA p s m args meth c) (hW : Wd kd N D cA ad s σ H locs) (b k : Nat) {index ci NN : Nat} {fl : List Nat} {C ref host : String} {T : u_T} (hb : b < N) (hkd : kd b = .inr (ci, fl)) (hcl : classes[ci]? = some (C, T, NN)) (hin : ∀ w ∈ u_ws C T NN, w ∈ lw_good) (hk : k < NN) (hlink : Cond.fieldLinkNest own index ref (T k).2.1 (T k).2.2.1 host ∈ lw_tbl) (href : (T k).1 = ref) {f : Nat} (hf : fl[k]? = some f) (hdg : decode cc pc = .ok (.getfield index, 3))
    (kk : W p l e R s m args below meth c H locs cells slots Q (F0 m (pc + 3) ls (fv1 ad (σ.1 b) (σ.2 b) k f :: rest))) : W p l e R s m args below meth c H locs cells slots Q (F0 m pc ls (.ref (ad b) :: rest)) :=
  va_getN hC.1 hC.2.1 hC.2.2.2.2.1 hin hC.2.2.2.1 hC.2.2.2.2.2.2.1 hW.1 b (fs := fvl ad (σ.1 b) (σ.2 b) 0 fl) (by rw [wl_get hb]; unfold ent; rw [hkd]; rfl) hcl k hk (va_Nw.use rfl (hC.2.2.2.2.2.1 _ hlink rfl)) (fun _ h => by rw [← href]; exact h) (v := fv1 ad (σ.1 b) (σ.2 b) k f) (by rw [fvl_get, hf, Nat.zero_add]; rfl) hdg kk
theorem Wd.put (hC : Cx own cc nL rt D cA p s m args meth c) (hW : Wd kd N D cA ad s σ H locs) (b k : Nat) {index ci NN : Nat} {fl : List Nat} {C ref : String} {T : u_T} {ty0 : Nat → FieldType} {ty : FieldType} {v : Value} (hb : b < N) (hkd : kd b = .inr (ci, fl)) (hcl : classes[ci]? = some (C, T, NN)) (hin : ∀ w ∈ u_ws C T NN, w ∈ lw_good) (hty : ∀ k, k < NN → parseFieldDescriptor (T k).2.2.1 = some (ty0 k)) (hnm : ∀ a, a < NN → ∀ b, b < NN → a ≠ b → (T a).2.1 ≠ (T b).2.1) (hk : k < NN) (hlink : Cond.fieldLink own index ref (T k).2.1 (T k).2.2.1 ∈ lw_good) (href : (T k).1 = ref) (hfin : (T k).2.2.2 = false) (hd : parseFieldDescriptor (T k).2.2.1 = some ty) (hn : narrow ty v = v) (hfit : fits ty v = true) (hl : k < fl.length) (hr : (fvl ad (σ.1 b) (σ.2 b) 0 fl).set k v = fvl ad (σ'.1 b) (σ'.2 b) 0 fl) (ho : ∀ a, a ≠ b → ent kd ad cA σ' a = ent kd ad cA σ a) (hdg : decode cc pc = .ok (.putfield index, 3))
    (kk : ∀ (H : Heap) (locs : List Loc), Wd kd N D cA ad s σ' H locs → W p l e R s m args below meth c H locs cells slots Q (F0 m (pc + 3) ls rest)) : W p l e R s m args below meth c H locs cells slots Q (F0 m pc ls (v :: .ref (ad b) :: rest)) := by
  refine va_put hC.1 hC.2.1 hC.2.2.2.2.1 hin ty0 hty hnm hC.2.2.2.1 hC.2.2.2.2.2.2.1 hW.1 hW.2.1 hW.2.2 b (fs := fvl ad (σ.1 b) (σ.2 b) 0 fl) (by rw [wl_get hb]; unfold ent; rw [hkd]; rfl) hcl k hk (hC.2.2.2.2.1 _ hlink) (fun _ h => by rw [← href]; exact h) hfin hd hn hfit (by rw [fvl_len]; exact hl) hdg (fun H1 locs1 h1 h2 h3 => kk H1 locs1 ?_)
  have e2 : (wl kd N ad cA σ).set b (ad b, .inr (ci, (fvl ad (σ.1 b) (σ.2 b) 0 fl).set k v)) = wl kd N ad cA σ' := wl_set hb (by unfold ent; rw [hkd, hr]; rfl) ho
  rw [e2] at h1 h2
  exact ⟨h1, h2, h3⟩
theorem Wd.putN (hC : Cx own cc nL rt D cA p s m args meth c) (hW : Wd kd N D cA ad s σ H locs) (b k : Nat) {index ci NN : Nat} {fl : List Nat} {C ref host : String} {T : u_T} {ty0 : Nat → FieldType} {ty : FieldType} {v : Value} (hb : b < N) (hkd : kd b = .inr (ci, fl)) (hcl : classes[ci]? = some (C, T, NN)) (hin : ∀ w ∈ u_ws C T NN, w ∈ lw_good) (hty : ∀ k, k < NN → parseFieldDescriptor (T k).2.2.1 = some (ty0 k)) (hnm : ∀ a, a < NN → ∀ b, b < NN → a ≠ b → (T a).2.1 ≠ (T b).2.1) (hk : k < NN) (hlink : Cond.fieldLinkNest own index ref (T k).2.1 (T k).2.2.1 host ∈ lw_tbl) (href : (T k).1 = ref) (hfin : (T k).2.2.2 = false) (hd : parseFieldDescriptor (T k).2.2.1 = some ty) (hn : narrow ty v = v) (hfit : fits ty v = true) (hl : k < fl.length) (hr : (fvl ad (σ.1 b) (σ.2 b) 0 fl).set k v = fvl ad (σ'.1 b) (σ'.2 b) 0 fl) (ho : ∀ a, a ≠ b → ent kd ad cA σ' a = ent kd ad cA σ a) (hdg : decode cc pc = .ok (.putfield index, 3))
    (kk : ∀ (H : Heap) (locs : List Loc), Wd kd N D cA ad s σ' H locs → W p l e R s m args below meth c H locs cells slots Q (F0 m (pc + 3) ls rest)) : W p l e R s m args below meth c H locs cells slots Q (F0 m pc ls (v :: .ref (ad b) :: rest)) := by
  refine va_putN hC.1 hC.2.1 hC.2.2.2.2.1 hin ty0 hty hnm hC.2.2.2.1 hC.2.2.2.2.2.2.1 hW.1 hW.2.1 hW.2.2 b (fs := fvl ad (σ.1 b) (σ.2 b) 0 fl) (by rw [wl_get hb]; unfold ent; rw [hkd]; rfl) hcl k hk (va_Nw.use rfl (hC.2.2.2.2.2.1 _ hlink rfl)) (fun _ h => by rw [← href]; exact h) hfin hd hn hfit (by rw [fvl_len]; exact hl) hdg (fun H1 locs1 h1 h2 h3 => kk H1 locs1 ?_)
  have e2 : (wl kd N ad cA σ).set b (ad b, .inr (ci, (fvl ad (σ.1 b) (σ.2 b) 0 fl).set k v)) = wl kd N ad cA σ' := wl_set hb (by unfold ent; rw [hkd, hr]; rfl) ho
  rw [e2] at h1 h2
  exact ⟨h1, h2, h3⟩
theorem put_I {b k : Nat} {fl : List Nat} {v : Int32} (h : fl[k]? = some 0) : (fvl ad (σ.1 b) (σ.2 b) 0 fl).set k (.int v) = fvl ad ((sI σ b k v).1 b) ((sI σ b k v).2 b) 0 fl := by
  rw [sI_row, fvl_setI h]; rfl
theorem put_J {b k : Nat} {fl : List Nat} {v : Int64} (h : fl[k]? = some 1) : (fvl ad (σ.1 b) (σ.2 b) 0 fl).set k (.long v) = fvl ad ((sJ σ b k v).1 b) ((sJ σ b k v).2 b) 0 fl := by
  rw [sJ_row, fvl_setJ h]; rfl
theorem some_lt {α : Type} {fl : List α} {k : Nat} {f : α} (h : fl[k]? = some f) : k < fl.length := (List.getElem?_eq_some_iff.mp h).1
/-- a call that comes back -/
theorem Wd.back {A1 : Array Value} {rv : Option Value} (hr : va_Run p l e R s m args below meth c H locs cells slots 0 0 (F0 m pc ls st) rest (QW kd N D cA ad rv σ' A1) (Aw N ad)) (hS : va_S (Aw N ad) s.heap H locs)
    (kk : ∀ (H : Heap) (locs : List Loc), Wd kd N D cA ad s σ' H locs → W p l e R s m args below meth c H locs cells slots Q (F0 m (pc + 3) ls (rv.toList ++ rest))) : W p l e R s m args below meth c H locs cells slots Q (F0 m pc ls st) := by
  intro T hT X
  obtain ⟨v, st₀, t, T', L, h0, X', hL, e1, e2, ⟨hv, ⟨hP, hK, hD, hN⟩, hz, hk⟩, st⟩ := hr T hT X
  cases hv
  rw [h0] at hz hk
  obtain ⟨t2, a1, b1⟩ := kk T'.heap (locs ++ L) ⟨by rw [e1]; exact hP, hD, Nat.le_trans hS.1 (by rw [e1]; exact hz), fun q h1 h2 => by rw [e1, hk q (Nat.lt_of_lt_of_le h1 hS.1) h2]; exact hS.2.1 q h1 h2, fun q hq => by
      rcases List.mem_append.mp hq with h | h
      · exact hS.2.2 q h
      · exact hL q h⟩ T' rfl X'
  exact ⟨t2, st t2 a1, b1⟩
theorem Wd.pre (hC : Cx own cc nL rt D cA p s m args meth c) (hW : Wd kd N D cA ad s σ H locs) (As : List Value) : ∀ U : State, U.heap = H → s.WarmedH U.vm → va_Pc As (PreW kd N D cA ad σ) As.toArray U := by
  intro U hU hWm
  exact ⟨rfl, by rw [hU]; exact hW.1, va_K.moved hWm.alike hC.2.2.2.2.2.2.1, hW.2.1, Nws.warm hWm hC.2.2.2.2.2.1⟩
theorem Wd.recv (hC : Cx own cc nL rt D cA p s m args meth c) (hW : Wd kd N D cA ad s σ H locs) (b : Nat) {ci NN : Nat} {fl : List Nat} {C : String} {T : u_T} (hb : b < N) (hkd : kd b = .inr (ci, fl)) (hcl : classes[ci]? = some (C, T, NN)) : ∃ cell : Cell, H[ad b]? = some cell ∧ cell.vm.isStatics = false ∧ s.vm.findClass C = some cell.cls :=
  va_recv hC.2.2.2.2.2.2.1 hW.1 (q := (C, T, NN)) (ci := ci) (q0 := b) hcl (fs := fvl ad (σ.1 b) (σ.2 b) 0 fl) (by rw [wl_get hb]; unfold ent; rw [hkd]; rfl)
theorem Wd.callV (hC : Cx own cc nL rt D cA p s m args meth c) (hW : Wd kd N D cA ad s σ H locs) {C nm ds : String} {bytes : ByteArray} {maxL index n : Nat} {ret : Option FieldType} {rm : Room} {As : List Value} {rv : Option Value} (b : Nat) {ci NN : Nat} {fl : List Nat} {T : u_T}
    (hM : MW kd N l D cA ad ⟨C, nm, ds⟩ bytes maxL ret rm (.ref (ad b) :: As) σ rv σ') (hb : b < N) (hkd : kd b = .inr (ci, fl)) (hcl : classes[ci]? = some (C, T, NN))
    (w1 : Cond.methodLink own index ⟨C, nm, ds⟩ ∈ lw_good) (w2 : Cond.instanceMethod ⟨C, nm, ds⟩ ∈ lw_good) (w3 : Cond.selects C ⟨C, nm, ds⟩ ⟨C, nm, ds⟩ ∈ lw_good) (w4 : Cond.initialized C ∈ lw_good) (w5 : Cond.code ⟨C, nm, ds⟩ bytes maxL ret ∈ lw_good)
    (hrm : rm.cells = 0 ∧ rm.slots = 0) (hd : C ≠ "java/lang/invoke/MethodHandle" ∧ C ≠ "java/lang/invoke/VarHandle" ∧ (parseMethodDescriptor ds).map (fun d => d.parameters.length) = some n) (hR : rm.frames + 1 ≤ R.frames ∧ 8 + (maxL + 11) + rm.locals ≤ R.locals)
    (hcs : cells ≤ R.cells ∧ slots ≤ R.slots) (hn : As.length = n) (hls : ls.size = nL) (hst : st = As.reverse ++ .ref (ad b) :: rest) {st2 : List Value} (hst2 : rv.toList ++ rest = st2) (hrest : (rest.map fun v => v.category).sum ≤ 8) (hdg : decode cc pc = .ok (.invokevirtual index, 3))
    (kk : ∀ (H : Heap) (locs : List Loc), Wd kd N D cA ad s σ' H locs → W p l e R s m args below meth c H locs cells slots Q (F0 m (pc + 3) ls st2)) : W p l e R s m args below meth c H locs cells slots Q (F0 m pc ls st) := by
  subst hst2
  refine Wd.back (rest := rest) (va_runV (As := As) (rest := rest) (n := n) ⟨hC.1, hC.2.1, hC.2.2.1, hC.2.2.2.1, hC.2.2.2.2.1⟩ hM (C := C) (index := index) ⟨callB_of n hC.2.2.2.2.1 (wc_good w5) rfl hrm.1 hrm.2 (hC.2.2.2.2.1 _ w4) (hC.2.2.2.2.1 _ w1) hd hR, hC.2.2.2.2.1 _ w2, hC.2.2.2.2.1 _ w3⟩ ⟨PreW.blind, hW.recv hC b hb hkd hcl, hW.pre hC _⟩ rfl hn hls hst (lv_room hrest) hdg ⟨hcs.1, hcs.2⟩) hW.2.2 kk
theorem Wd.callVN (hC : Cx own cc nL rt D cA p s m args meth c) (hW : Wd kd N D cA ad s σ H locs) {C nm ds host : String} {bytes : ByteArray} {maxL index n : Nat} {ret : Option FieldType} {rm : Room} {As : List Value} {rv : Option Value} (b : Nat) {ci NN : Nat} {fl : List Nat} {T : u_T}
    (hM : MW kd N l D cA ad ⟨C, nm, ds⟩ bytes maxL ret rm (.ref (ad b) :: As) σ rv σ') (hb : b < N) (hkd : kd b = .inr (ci, fl)) (hcl : classes[ci]? = some (C, T, NN))
    (w1 : Cond.methodLinkNest own index ⟨C, nm, ds⟩ host ∈ lw_tbl) (w2 : Cond.instanceMethod ⟨C, nm, ds⟩ ∈ lw_good) (w3 : Cond.selects C ⟨C, nm, ds⟩ ⟨C, nm, ds⟩ ∈ lw_good) (w4 : Cond.initialized C ∈ lw_good) (w5 : Cond.code ⟨C, nm, ds⟩ bytes maxL ret ∈ lw_good)
    (hrm : rm.cells = 0 ∧ rm.slots = 0) (hd : C ≠ "java/lang/invoke/MethodHandle" ∧ C ≠ "java/lang/invoke/VarHandle" ∧ (parseMethodDescriptor ds).map (fun d => d.parameters.length) = some n) (hR : rm.frames + 1 ≤ R.frames ∧ 8 + (maxL + 11) + rm.locals ≤ R.locals)
    (hcs : cells ≤ R.cells ∧ slots ≤ R.slots) (hn : As.length = n) (hls : ls.size = nL) (hst : st = As.reverse ++ .ref (ad b) :: rest) {st2 : List Value} (hst2 : rv.toList ++ rest = st2) (hrest : (rest.map fun v => v.category).sum ≤ 8) (hdg : decode cc pc = .ok (.invokevirtual index, 3))
    (kk : ∀ (H : Heap) (locs : List Loc), Wd kd N D cA ad s σ' H locs → W p l e R s m args below meth c H locs cells slots Q (F0 m (pc + 3) ls st2)) : W p l e R s m args below meth c H locs cells slots Q (F0 m pc ls st) := by
  subst hst2
  refine Wd.back (rest := rest) (va_runVN (As := As) (rest := rest) (n := n) ⟨hC.1, hC.2.1, hC.2.2.1, hC.2.2.2.1, hC.2.2.2.2.1⟩ hM (C := C) (index := index) (host := host) ⟨va_cnB n hC.2.2.2.2.1 (wc_good w5) rfl hrm.1 hrm.2 (hC.2.2.2.2.2.1 _ w1 rfl) (hC.2.2.2.2.1 _ w4) hd hR, hC.2.2.2.2.1 _ w2, hC.2.2.2.2.1 _ w3⟩ ⟨PreW.blind, hW.recv hC b hb hkd hcl, hW.pre hC _⟩ rfl hn hls hst (lv_room hrest) hdg ⟨hcs.1, hcs.2⟩) hW.2.2 kk
theorem Wd.callS (hC : Cx own cc nL rt D cA p s m args meth c) (hW : Wd kd N D cA ad s σ H locs) {C nm ds : String} {bytes : ByteArray} {maxL index n : Nat} {ret : Option FieldType} {rm : Room} {As : List Value} {rv : Option Value}
    (hM : MW kd N l D cA ad ⟨C, nm, ds⟩ bytes maxL ret rm As σ rv σ')
    (w1 : Cond.methodLink own index ⟨C, nm, ds⟩ ∈ lw_good) (w2 : Cond.static ⟨C, nm, ds⟩ ∈ lw_good) (w4 : Cond.initialized C ∈ lw_good) (w5 : Cond.code ⟨C, nm, ds⟩ bytes maxL ret ∈ lw_good)
    (hrm : rm.cells = 0 ∧ rm.slots = 0) (hd : C ≠ "java/lang/invoke/MethodHandle" ∧ C ≠ "java/lang/invoke/VarHandle" ∧ (parseMethodDescriptor ds).map (fun d => d.parameters.length) = some n) (hR : rm.frames + 1 ≤ R.frames ∧ 8 + (maxL + 11) + rm.locals ≤ R.locals)
    (hcs : cells ≤ R.cells ∧ slots ≤ R.slots) (hn : As.length = n) (hls : ls.size = nL) (hst : st = As.reverse ++ rest) {st2 : List Value} (hst2 : rv.toList ++ rest = st2) (hrest : (rest.map fun v => v.category).sum ≤ 8) (hdg : decode cc pc = .ok (.invokestatic index, 3))
    (kk : ∀ (H : Heap) (locs : List Loc), Wd kd N D cA ad s σ' H locs → W p l e R s m args below meth c H locs cells slots Q (F0 m (pc + 3) ls st2)) : W p l e R s m args below meth c H locs cells slots Q (F0 m pc ls st) := by
  subst hst2
  refine Wd.back (rest := rest) (va_runS (As := As) (rest := rest) (n := n) ⟨hC.1, hC.2.1, hC.2.2.1, hC.2.2.2.1, hC.2.2.2.2.1⟩ hM (index := index) ⟨callB_of n hC.2.2.2.2.1 (wc_good w5) rfl hrm.1 hrm.2 (hC.2.2.2.2.1 _ w4) (hC.2.2.2.2.1 _ w1) hd hR, hC.2.2.2.2.1 _ w2⟩ ⟨PreW.blind, hW.pre hC _⟩ rfl hn hls hst (lv_room hrest) hdg ⟨hcs.1, hcs.2⟩) hW.2.2 kk
theorem Wd.callSN (hC : Cx own cc nL rt D cA p s m args meth c) (hW : Wd kd N D cA ad s σ H locs) {C nm ds host : String} {bytes : ByteArray} {maxL index n : Nat} {ret : Option FieldType} {rm : Room} {As : List Value} {rv : Option Value}
    (hM : MW kd N l D cA ad ⟨C, nm, ds⟩ bytes maxL ret rm As σ rv σ')
    (w1 : Cond.methodLinkNest own index ⟨C, nm, ds⟩ host ∈ lw_tbl) (w2 : Cond.static ⟨C, nm, ds⟩ ∈ lw_good) (w4 : Cond.initialized C ∈ lw_good) (w5 : Cond.code ⟨C, nm, ds⟩ bytes maxL ret ∈ lw_good)
    (hrm : rm.cells = 0 ∧ rm.slots = 0) (hd : C ≠ "java/lang/invoke/MethodHandle" ∧ C ≠ "java/lang/invoke/VarHandle" ∧ (parseMethodDescriptor ds).map (fun d => d.parameters.length) = some n) (hR : rm.frames + 1 ≤ R.frames ∧ 8 + (maxL + 11) + rm.locals ≤ R.locals)
    (hcs : cells ≤ R.cells ∧ slots ≤ R.slots) (hn : As.length = n) (hls : ls.size = nL) (hst : st = As.reverse ++ rest) {st2 : List Value} (hst2 : rv.toList ++ rest = st2) (hrest : (rest.map fun v => v.category).sum ≤ 8) (hdg : decode cc pc = .ok (.invokestatic index, 3))
    (kk : ∀ (H : Heap) (locs : List Loc), Wd kd N D cA ad s σ' H locs → W p l e R s m args below meth c H locs cells slots Q (F0 m (pc + 3) ls st2)) : W p l e R s m args below meth c H locs cells slots Q (F0 m pc ls st) := by
  subst hst2
  refine Wd.back (rest := rest) (va_runSN (As := As) (rest := rest) (n := n) ⟨hC.1, hC.2.1, hC.2.2.1, hC.2.2.2.1, hC.2.2.2.2.1⟩ hM (index := index) (host := host) ⟨va_cnB n hC.2.2.2.2.1 (wc_good w5) rfl hrm.1 hrm.2 (hC.2.2.2.2.2.1 _ w1 rfl) (hC.2.2.2.2.1 _ w4) hd hR, hC.2.2.2.2.1 _ w2, trivial⟩ ⟨PreW.blind, hW.pre hC _⟩ rfl hn hls hst (lv_room hrest) hdg ⟨hcs.1, hcs.2⟩) hW.2.2 kk
/-- ends -/
theorem Wd.endq (hC : Cx own cc nL rt D cA p s m args meth c) (hW : Wd kd N D cA ad s σ H locs) {rv : Option Value} : ∀ t : State, t.heap = H → s.WarmedH t.vm → QW kd N D cA ad rv σ args s (.returned rv) t := by
  intro t ht hWm
  exact ⟨rfl, ⟨by rw [ht]; exact hW.1, va_K.moved hWm.alike hC.2.2.2.2.2.2.1, hW.2.1, Nws.warm hWm hC.2.2.2.2.2.1⟩, hW.2.2.F ht⟩
theorem Wd.iret (hC : Cx own cc nL (some .int) D cA p s m args meth c) (hW : Wd kd N D cA ad s σ H locs) {v : Int32} (hdg : decode cc pc = .ok (.ireturn, 1)) : W p l e R s m args below meth c H locs 0 0 (EndW kd N D cA ad below args s (some (.int v)) σ) (F0 m pc ls [.int v]) :=
  W.iret hC.1 hC.2.1 hC.2.2.2.2.2.2.2.1 (hW.endq hC) hW.2.2.2.2 hdg (hlocks := hC.2.2.2.2.2.2.2.2)
theorem Wd.zret (hC : Cx own cc nL (some .boolean) D cA p s m args meth c) (hW : Wd kd N D cA ad s σ H locs) {v : Int32} (hz : v = 0 ∨ v = 1) (hdg : decode cc pc = .ok (.ireturn, 1)) : W p l e R s m args below meth c H locs 0 0 (EndW kd N D cA ad below args s (some (.int v)) σ) (F0 m pc ls [.int v]) :=
  W.zret hC.1 hC.2.1 hC.2.2.2.2.2.2.2.1 (by rcases hz with rfl | rfl <;> rfl) (hW.endq hC) hW.2.2.2.2 hdg (hlocks := hC.2.2.2.2.2.2.2.2)
theorem Wd.lret (hC : Cx own cc nL (some .long) D cA p s m args meth c) (hW : Wd kd N D cA ad s σ H locs) {v : Int64} (hdg : decode cc pc = .ok (.lreturn, 1)) : W p l e R s m args below meth c H locs 0 0 (EndW kd N D cA ad below args s (some (.long v)) σ) (F0 m pc ls [.long v]) :=
  W.lret hC.1 hC.2.1 hC.2.2.2.2.2.2.2.1 (hW.endq hC) hW.2.2.2.2 hdg (hlocks := hC.2.2.2.2.2.2.2.2)
theorem Wd.vret (hC : Cx own cc nL none D cA p s m args meth c) (hW : Wd kd N D cA ad s σ H locs) (hdg : decode cc pc = .ok (.return_, 1)) : W p l e R s m args below meth c H locs 0 0 (EndW kd N D cA ad below args s none σ) (F0 m pc ls []) :=
  W.vret hC.1 hC.2.1 hC.2.2.2.2.2.2.2.1 (hW.endq hC) hW.2.2.2.2 hdg (hlocks := hC.2.2.2.2.2.2.2.2)
theorem Wd.aret {rn : String} (hC : Cx own cc nL (some (.object rn)) D cA p s m args meth c) (hW : Wd kd N D cA ad s σ H locs) {v : Value} (hv : v = .null ∨ ∃ a, v = .ref a) (hdg : decode cc pc = .ok (.areturn, 1)) : W p l e R s m args below meth c H locs 0 0 (EndW kd N D cA ad below args s (some v) σ) (F0 m pc ls [v]) :=
  W.aret hC.1 hC.2.1 hC.2.2.2.2.2.2.2.1 (Or.inl ⟨_, rfl⟩) hv (hW.endq hC) hW.2.2.2.2 hdg (hlocks := hC.2.2.2.2.2.2.2.2)
end KIT
/-! guards and binds of the pure functions -/
def gd {α : Type} (b : Bool) (x : Option α) : Option α := if b = true then x else none
theorem gd_some {α : Type} {b : Bool} {x : Option α} {r : α} (h : gd b x = some r) : b = true ∧ x = some r := by
  unfold gd at h
  by_cases hb : b = true
  · rw [if_pos hb] at h; exact ⟨hb, h⟩
  · rw [if_neg hb] at h; cases h
def bd {α β : Type} (x : Option (α × St)) (k : α → St → Option β) : Option β := match x with
  | none => none
  | some (a, σ) => k a σ
theorem bd_some {α β : Type} {x : Option (α × St)} {k : α → St → Option β} {r : β} (h : bd x k = some r) : ∃ a σ, x = some (a, σ) ∧ k a σ = some r := by
  match x, h with
  | some (a, σ), h => exact ⟨a, σ, rfl, h⟩
def zb (v : Int32) : Bool := decide (v = 0 ∨ v = 1)
theorem zb_of {v : Int32} (h : zb v = true) : v = 0 ∨ v = 1 := of_decide_eq_true h
