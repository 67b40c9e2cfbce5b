/-! ===== the constructors ===== -/
theorem va_AOA.moved {t : FieldType} {u U : State} (hvm : u.vm.Alike U.vm) (h : va_AOA t u) : va_AOA t U := by
  obtain ⟨comp, c, k, h1, h2, h3, h4, h5⟩ := arrayOver_specB h
  obtain ⟨k', hk', he⟩ := hvm.2.2 _ _ h3
  have hi : (U.vm.classes.findIdx? fun (x : Class) => match x.kind with | .array component _ => component == comp | _ => false) = some c := by
    have a := va_idx_bare U.vm comp
    have b := va_idx_bare u.vm comp
    have e : U.vm.bare = u.vm.bare := by first | exact hvm.bare_eq | exact hvm.bare_eq.symm
    rw [e] at a
    exact a.symm.trans (b.trans h2)
  have hkind : k'.kind = .array comp (.array t) := by rw [he]; exact h4
  have f1 : U.vm.findClass (FieldType.array t).toString = some comp := by rw [hvm.findClass]; exact h1
  have f2 : U.vm.findClass ("[" ++ (FieldType.array t).toString) = some c := by rw [hvm.findClass]; exact h5
  unfold va_AOA Cond.before Cond.holds
  simp only [Cond.value]
  rw [f1, Option.bind_some]
  refine (congrArg (fun o : Option Nat => (o.bind (fun c => (U.vm.classes[c]?).map fun (k : Class) => match k.kind with | .array _ ty => decide (ty = FieldType.array t) && decide (U.vm.findClass ("[" ++ (FieldType.array t).toString) = some c) | _ => false) == some true)) hi).trans ?_
  simp [hk', hkind, f2]
/-- a constructor's start -/
def cn_Pc (en : en_T) (av : List Value) (B : Heap → Prop) : Array Value → State → Prop := fun v U => v = av.toArray ∧ (en_ok en U ∧ va_AOA .int U) ∧ B U.heap
theorem cn_blind {en : en_T} {av : List Value} {B : Heap → Prop} : FrameBlind (cn_Pc en av B) := fun _ U g mk q => ⟨q.1, ⟨q.2.1.1.calling, va_AOA.moved (u := U) (U := U.calling g mk _) (Vm.Alike.refl U.vm) q.2.1.2⟩, q.2.2⟩
theorem cn_preS {en : en_T} {B : Heap → Prop} {s : State} {H : Heap} {As : List Value} (hE : en_ok en s) (hO : va_AOA .int s) (hB : B H) : PreS s H (cn_Pc en As B) As := ⟨cn_blind, fun _ hU hW => ⟨rfl, ⟨hE.warm hW, hO.moved hW.alike⟩, by rw [hU]; exact hB⟩⟩
theorem va_D1 {x : Nat × va_E} {sz : Nat} : va_D (va_A [x] sz) [x] := by
  refine ⟨fun i j p q hi hj _ => ?_, fun k q hk => va_A.in hk⟩
  have h1 : i < 1 := (List.getElem?_eq_some_iff.mp hi).1
  have h2 : j < 1 := (List.getElem?_eq_some_iff.mp hj).1
  omega
section CN
variable {p : Program} {l : Launch} {e : Env} {R : Room} {s : State} {m : MethodId} {args : Array Value} {below : List Frame} {meth : Method} {c : Code} {H : Heap} {locs : List Loc} {cells slots : Nat} {Q : State → Prop}
variable {cc : ByteArray} {pc : Nat} {ls : Array Slot} {rest : List Value} {A : Nat → Prop} {ws : va_W} {H0 : Heap} {en : en_T}
/-- a new array of numbers: its class is the one that is known -/
theorem cn_newa (hexec : p.tables.exec = Jvm.exec) (hb : c.code = cc) {atype : ArrayType} (harr : (Cond.arrayClass (newarray.typeOf atype)).before args s = true) {ty : FieldType} (hty : newarray.typeOf atype = ty) (hE : en_ok en s) (cE : ClassId) (hc : ∀ cA, va_RA s cA ty → cA = cE) (hP : va_P en.1 vwCl ws H) (hD : va_D A ws) (hS : va_S A H0 H locs) (hA : ∀ q, H0.size ≤ q → A q)
    {n : Int32} {N' : Nat} {a0 : vp_A} (ha : ∀ cA : ClassId, vp_cell cA a0 = arrV cA N' (fun _ => defaultValue ty)) (hn : ¬ n < 0) (hN : n.toNatClampNeg = N') (hbytes : N' * componentBytes ty ≤ 536870912) (hcells : cells + 1 ≤ R.cells) (hslots : slots + N' ≤ R.slots) (hdg : decode cc pc = .ok (.newarray atype, 2))
    (kk : ∀ (q : Nat) (H1 : Heap), va_P en.1 vwCl (ws ++ [(q, .inl (cE, a0))]) H1 → va_D A (ws ++ [(q, .inl (cE, a0))]) → va_S A H0 H1 locs →
      W p l e R s m args below meth c H1 locs (cells + 1) (slots + N') Q (F0 m (pc + 2) ls (.ref q :: rest))) : W p l e R s m args below meth c H locs cells slots Q (F0 m pc ls (.int n :: rest)) := by
  refine va_newa hexec hb harr hty hE.1 hP hD hS hA ha hn hN hbytes hcells hslots hdg (fun q cA H1 hK h1 h2 h3 => ?_)
  have e1 : cA = cE := hc cA (hK.2 4 (cA, ty) rfl).2
  subst e1
  exact kk q H1 h1 h2 h3
end CN
theorem ra_i {en : en_T} {s : State} (hE : en_ok en s) : ∀ cA, va_RA s cA .int → cA = en.2.1 := fun _ h => Option.some.inj (h.symm.trans (hE.1.2 0 _ rfl).2)
theorem ra_l {en : en_T} {s : State} (hE : en_ok en s) : ∀ cA, va_RA s cA .long → cA = en.2.2.1 := fun _ h => Option.some.inj (h.symm.trans (hE.1.2 1 _ rfl).2)
theorem ra_b {en : en_T} {s : State} (hE : en_ok en s) : ∀ cA, va_RA s cA .boolean → cA = en.2.2.2.1 := fun _ h => Option.some.inj (h.symm.trans (hE.1.2 2 _ rfl).2)
theorem ra_a {en : en_T} {s : State} (hE : en_ok en s) : ∀ cA, va_RA s cA (.array .int) → cA = en.2.2.2.2 := fun _ h => Option.some.inj (h.symm.trans (hE.1.2 3 _ rfl).2)
abbrev z_i (en : en_T) (q L : Nat) : Nat × va_E := (q, .inl (en.2.1, L, .inl (fun _ => 0)))
abbrev z_l (en : en_T) (q L : Nat) : Nat × va_E := (q, .inl (en.2.2.1, L, .inr (.inl (fun _ => 0))))
abbrev z_b (en : en_T) (q L : Nat) : Nat × va_E := (q, .inl (en.2.2.2.1, L, .inl (fun _ => 0)))
theorem mna_z (c : ClassId) : Jvm.Free.Multi.innerC c 24 (defaultValue .int) = vp_cell c (24, .inl (fun _ => 0)) := by
  show ({ cls := c, slots := Array.replicate 24 (defaultValue .int), vm := .none } : Cell) = _
  rw [arrV_new]
  rfl
theorem mna_pl {cy : ClassId} {z : vp_A} {r : Nat → Nat} {X : va_W} : X ++ va_pl ([] ++ (List.range 7).map r) (vr_up (fun _ => .inl (cy, z)) ((List.range 7).map r) (.inl (cy, z))) = X ++ [(r 0, .inl (cy, z)), (r 1, .inl (cy, z)), (r 2, .inl (cy, z)), (r 3, .inl (cy, z)), (r 4, .inl (cy, z)), (r 5, .inl (cy, z)), (r 6, .inl (cy, z))] := by
  have e : vr_up (fun _ => (.inl (cy, z) : va_E)) ((List.range 7).map r) (.inl (cy, z)) = fun _ => .inl (cy, z) := by
    funext a
    unfold vr_up
    split <;> rfl
  rw [e]
  rfl
def w2 (en : en_T) (ad : Nat → Nat) : va_W := [(ad 0, .inr (2, [.ref (ad 1), .ref (ad 2)])), z_i en (ad 1) 7, z_i en (ad 2) 7]
def w0 (en : en_T) (g v : Nat) (ad : Nat → Nat) : va_W := [(ad 0, .inr (0, [.ref g, .ref v, .ref (ad 1), .ref (ad 2)])), z_i en (ad 1) 7, z_i en (ad 2) 24]
def w3 (en : en_T) (g : Nat) (ad : Nat → Nat) : va_W := [(ad 0, .inr (3, [.ref g, .ref (ad 1), .ref (ad 2), .ref (ad 3)])), (ad 1, .inr (2, [.ref (ad 4), .ref (ad 5)])), z_b en (ad 2) 7, z_i en (ad 3) 7, z_i en (ad 4) 7, z_i en (ad 5) 7]
def w1 (en : en_T) (ad : Nat → Nat) : va_W := [(ad 0, .inr (1, [.ref (ad 1), .ref (ad 2), .ref (ad 3), .ref (ad 4), .ref (ad 5), .ref (ad 6), .ref (ad 7), .int 0, .int 0])), z_i en (ad 1) 7, z_i en (ad 2) 7, z_i en (ad 3) 7, (ad 4, .inl (en.2.2.2.2, 7, .inr (.inr (.inr (.inr (fun i => if i < 7 then some (ad (8 + i)) else none)))))), z_i en (ad 5) 24, z_i en (ad 6) 24, z_i en (ad 7) 24, z_i en (ad 8) 24, z_i en (ad 9) 24, z_i en (ad 10) 24, z_i en (ad 11) 24, z_i en (ad 12) 24, z_i en (ad 13) 24, z_i en (ad 14) 24]
abbrev c0 : Nat → Nat → Int32 := fun _ _ => 0
abbrev d0 : mT := (fun _ _ => 0, fun _ _ => 0)
theorem iw_X2_init_X2 : ∀ w ∈ wsX20, w ∈ wsX2_init := by decide +kernel
set_option maxHeartbeats 400000 in
set_option maxRecDepth 100000 in
/-- new Path -/
theorem cc_X2 (l : Launch) (en : en_T) (h0 sz : Nat) : Met l yX2_init wsX2_init (rm_ 2 2 14) (ct_Pc en [.ref h0] (fun H => H.size = sz ∧ va_P en.1 vwCl [(h0, .inr (2, [.null, .null]))] H)) (va_Qv (fun ad : Nat → Nat => ad 0 = h0) (fun ad t => va_P en.1 vwCl (w2 en ad) t.heap ∧ va_D (va_A [(h0, .inr (2, [.null, .null]))] sz) (w2 en ad)) (va_A [(h0, .inr (2, [.null, .null]))] sz)) 2 14 (va_A [(h0, .inr (2, [.null, .null]))] sz) := by
  refine Met.ofW (cc := cX2_init) (maxL := 1) (ret := none) (by decide) rfl ?_
  intro p e s m args below meth co s₁ B hml hv
  obtain ⟨rfl, hE, hsz, hP⟩ := hv
  subst hsz
  have hx := B.exec
  have hb := B.bytes
  have hr := B.returns
  have hts := atoms_spec (ws := wsX2_init) B.pre
  have hown : s.vm.findClass RX2 = some m.cls := findClass_of_methodNamed B.named
  have hlocks := B.notSynchronized
  have hin : meth.name = "<init>" := (name_of_methodNamed B.named B.method).1
  have hD : va_D (va_A [(h0, .inr (2, [.null, .null]))] s.heap.size) [(h0, .inr (2, [.null, .null]))] := va_D1
  generalize hAe : va_A [(h0, .inr (2, [.null, .null]))] s.heap.size = A at hD ⊢
  have hA : ∀ q : Nat, s.heap.size ≤ q → A q := fun q h => by rw [← hAe]; exact Or.inr h
  have hS : va_S A s.heap s.heap [] := va_S.rf
  have hl := lv_entry ([.ref h0]) (n := 1) (Nat.le_of_ble_eq_true rfl)
  rw [lg_entry_eq]
  generalize (lg_sl ([.ref h0]) ++ List.replicate (1 - (lg_sl ([.ref h0])).length) Slot.unset).toArray = ls at hl ⊢
  have hl : lv_has ls 1 [(0, .ref h0)] := hl
  refine lv_aload_n hx hb dX2_init_0 rfl (lv_at hl 0 rfl) ?_
  refine W.objInit hx hb hown (hts (.methodLink RX2 3 objectInit) (by decide +kernel)) (hts (.instanceMethod objectInit) (by decide +kernel)) (hts (.code objectInit ⟨#[0xb1]⟩ 1 none) (List.mem_of_getElem? (i := 3) rfl)) rfl (by rw [hml]; exact hl.1) rfl dX2_init_1 (Nat.le_of_ble_eq_true rfl) (Nat.le_of_ble_eq_true rfl) ?_
  refine W.eq (g2 := F0 m 4 ls []) rfl ?_
  refine lv_aload_n hx hb dX2_init_4 rfl (lv_at hl 0 rfl) ?_
  refine lv_bipush (v := 7) hx hb dX2_init_5 (by decide) ?_
  refine cn_newa (atype := .int) (a0 := (7, .inl (fun _ => 0))) (N' := 7) (ty := .int) hx hb (hts (.arrayClass .int) (by decide +kernel)) rfl hE en.2.1 (ra_i hE) hP hD hS hA (fun _ => rfl) (by decide) (by decide) (by decide) (Nat.le_of_ble_eq_true rfl) (Nat.le_of_ble_eq_true rfl) dX2_init_7 (fun q7 H hP hD hS => ?_)
  have hP : va_P en.1 vwCl [(h0, .inr (2, [.null, .null])), z_i en q7 7] H := hP
  have hD : va_D A [(h0, .inr (2, [.null, .null])), z_i en q7 7] := hD
  refine va_putF (D := en.1) (ci := 2) (v := .ref q7) (ty := .array .int) (C := RX2) (T := TX2) (N := 2) hx hb hts iw_X2_init_X2 tyX2 tyX2_ok nmX2 hown hE.1 hP hD hS 0 rfl rfl 0 (by decide) (hts (.fieldLink RX2 9 "CreditGame$Path" "steps" "[I") (by decide +kernel)) (fun _ h9 => h9) rfl hin rfl (by decide +kernel) rfl rfl (Nat.le_of_ble_eq_true rfl) dX2_init_9 (fun H locs hP hD hS => ?_)
  have hP : va_P en.1 vwCl [(h0, .inr (2, [.ref q7, .null])), z_i en q7 7] H := hP
  have hD : va_D A [(h0, .inr (2, [.ref q7, .null])), z_i en q7 7] := hD
  refine lv_aload_n hx hb dX2_init_12 rfl (lv_at hl 0 rfl) ?_
  refine lv_bipush (v := 7) hx hb dX2_init_13 (by decide) ?_
  refine cn_newa (atype := .int) (a0 := (7, .inl (fun _ => 0))) (N' := 7) (ty := .int) hx hb (hts (.arrayClass .int) (by decide +kernel)) rfl hE en.2.1 (ra_i hE) hP hD hS hA (fun _ => rfl) (by decide) (by decide) (by decide) (Nat.le_of_ble_eq_true rfl) (Nat.le_of_ble_eq_true rfl) dX2_init_15 (fun q15 H hP hD hS => ?_)
  have hP : va_P en.1 vwCl [(h0, .inr (2, [.ref q7, .null])), z_i en q7 7, z_i en q15 7] H := hP
  have hD : va_D A [(h0, .inr (2, [.ref q7, .null])), z_i en q7 7, z_i en q15 7] := hD
  refine va_putF (D := en.1) (ci := 2) (v := .ref q15) (ty := .array .int) (C := RX2) (T := TX2) (N := 2) hx hb hts iw_X2_init_X2 tyX2 tyX2_ok nmX2 hown hE.1 hP hD hS 0 rfl rfl 1 (by decide) (hts (.fieldLink RX2 15 "CreditGame$Path" "sums" "[I") (by decide +kernel)) (fun _ h9 => h9) rfl hin rfl (by decide +kernel) rfl rfl (Nat.le_of_ble_eq_true rfl) dX2_init_17 (fun H locs hP hD hS => ?_)
  have hP : va_P en.1 vwCl [(h0, .inr (2, [.ref q7, .ref q15])), z_i en q7 7, z_i en q15 7] H := hP
  have hD : va_D A [(h0, .inr (2, [.ref q7, .ref q15])), z_i en q7 7, z_i en q15 7] := hD
  obtain ⟨ad, had⟩ : ∃ z : Nat → Nat, z = fun k => match k with | 0 => h0 | 1 => q7 | 2 => q15 | _ => 0 := ⟨_, rfl⟩
  have hP9 := hP.sub (ws' := w2 en ad) [0, 1, 2] (by rw [had]; rfl)
  have hD9 := hD.sub (ws' := w2 en ad) [0, 1, 2] (by decide) (by rw [had]; rfl)
  refine W.widen (k := 2) (n := 14) (Nat.le_of_ble_eq_true rfl) (Nat.le_of_ble_eq_true rfl) ?_
  exact W.vret hx hb hr (fun t ht hW => ⟨⟨ad, rfl, by rw [had]; rfl, by rw [ht]; exact hP9, by first | exact hD9 | (rw [hAe]; exact hD9)⟩, hS.F ht⟩) hS.2.2 dX2_init_20
theorem iw_X0_init_X0 : ∀ w ∈ wsX00, w ∈ wsX0_init := by decide +kernel
set_option maxHeartbeats 400000 in
set_option maxRecDepth 100000 in
/-- new Credits -/
theorem cc_X0 (l : Launch) (en : en_T) (h0 sz : Nat) (g v : Nat) : Met l yX0_init wsX0_init (rm_ 2 2 31) (ct_Pc en [.ref h0, .ref g, .ref v] (fun H => H.size = sz ∧ va_P en.1 vwCl [(h0, .inr (0, [.null, .null, .null, .null]))] H)) (va_Qv (fun ad : Nat → Nat => ad 0 = h0) (fun ad t => va_P en.1 vwCl (w0 en g v ad) t.heap ∧ va_D (va_A [(h0, .inr (0, [.null, .null, .null, .null]))] sz) (w0 en g v ad)) (va_A [(h0, .inr (0, [.null, .null, .null, .null]))] sz)) 2 31 (va_A [(h0, .inr (0, [.null, .null, .null, .null]))] sz) := by
  refine Met.ofW (cc := cX0_init) (maxL := 3) (ret := none) (by decide) rfl ?_
  intro p e s m args below meth co s₁ B hml hv
  obtain ⟨rfl, hE, hsz, hP⟩ := hv
  subst hsz
  have hx := B.exec
  have hb := B.bytes
  have hr := B.returns
  have hts := atoms_spec (ws := wsX0_init) B.pre
  have hown : s.vm.findClass RX0 = some m.cls := findClass_of_methodNamed B.named
  have hlocks := B.notSynchronized
  have hin : meth.name = "<init>" := (name_of_methodNamed B.named B.method).1
  have hD : va_D (va_A [(h0, .inr (0, [.null, .null, .null, .null]))] s.heap.size) [(h0, .inr (0, [.null, .null, .null, .null]))] := va_D1
  generalize hAe : va_A [(h0, .inr (0, [.null, .null, .null, .null]))] s.heap.size = A at hD ⊢
  have hA : ∀ q : Nat, s.heap.size ≤ q → A q := fun q h => by rw [← hAe]; exact Or.inr h
  have hS : va_S A s.heap s.heap [] := va_S.rf
  have hl := lv_entry ([.ref h0, .ref g, .ref v]) (n := 3) (Nat.le_of_ble_eq_true rfl)
  rw [lg_entry_eq]
  generalize (lg_sl ([.ref h0, .ref g, .ref v]) ++ List.replicate (3 - (lg_sl ([.ref h0, .ref g, .ref v])).length) Slot.unset).toArray = ls at hl ⊢
  have hl : lv_has ls 3 [(0, .ref h0), (1, .ref g), (2, .ref v)] := hl
  refine lv_aload_n hx hb dX0_init_0 rfl (lv_at hl 0 rfl) ?_
  refine W.objInit hx hb hown (hts (.methodLink RX0 3 objectInit) (by decide +kernel)) (hts (.instanceMethod objectInit) (by decide +kernel)) (hts (.code objectInit ⟨#[0xb1]⟩ 1 none) (List.mem_of_getElem? (i := 3) rfl)) rfl (by rw [hml]; exact hl.1) rfl dX0_init_1 (Nat.le_of_ble_eq_true rfl) (Nat.le_of_ble_eq_true rfl) ?_
  refine W.eq (g2 := F0 m 4 ls []) rfl ?_
  refine lv_aload_n hx hb dX0_init_4 rfl (lv_at hl 0 rfl) ?_
  refine lv_bipush (v := 7) hx hb dX0_init_5 (by decide) ?_
  refine cn_newa (atype := .int) (a0 := (7, .inl (fun _ => 0))) (N' := 7) (ty := .int) hx hb (hts (.arrayClass .int) (by decide +kernel)) rfl hE en.2.1 (ra_i hE) hP hD hS hA (fun _ => rfl) (by decide) (by decide) (by decide) (Nat.le_of_ble_eq_true rfl) (Nat.le_of_ble_eq_true rfl) dX0_init_7 (fun q7 H hP hD hS => ?_)
  have hP : va_P en.1 vwCl [(h0, .inr (0, [.null, .null, .null, .null])), z_i en q7 7] H := hP
  have hD : va_D A [(h0, .inr (0, [.null, .null, .null, .null])), z_i en q7 7] := hD
  refine va_putF (D := en.1) (ci := 0) (v := .ref q7) (ty := .array .int) (C := RX0) (T := TX0) (N := 4) hx hb hts iw_X0_init_X0 tyX0 tyX0_ok nmX0 hown hE.1 hP hD hS 0 rfl rfl 2 (by decide) (hts (.fieldLink RX0 9 "CreditGame$Credits" "need" "[I") (by decide +kernel)) (fun _ h9 => h9) rfl hin rfl (by decide +kernel) rfl rfl (Nat.le_of_ble_eq_true rfl) dX0_init_9 (fun H locs hP hD hS => ?_)
  have hP : va_P en.1 vwCl [(h0, .inr (0, [.null, .null, .ref q7, .null])), z_i en q7 7] H := hP
  have hD : va_D A [(h0, .inr (0, [.null, .null, .ref q7, .null])), z_i en q7 7] := hD
  refine lv_aload_n hx hb dX0_init_12 rfl (lv_at hl 0 rfl) ?_
  refine lv_bipush (v := 24) hx hb dX0_init_13 (by decide) ?_
  refine cn_newa (atype := .int) (a0 := (24, .inl (fun _ => 0))) (N' := 24) (ty := .int) hx hb (hts (.arrayClass .int) (by decide +kernel)) rfl hE en.2.1 (ra_i hE) hP hD hS hA (fun _ => rfl) (by decide) (by decide) (by decide) (Nat.le_of_ble_eq_true rfl) (Nat.le_of_ble_eq_true rfl) dX0_init_15 (fun q15 H hP hD hS => ?_)
  have hP : va_P en.1 vwCl [(h0, .inr (0, [.null, .null, .ref q7, .null])), z_i en q7 7, z_i en q15 24] H := hP
  have hD : va_D A [(h0, .inr (0, [.null, .null, .ref q7, .null])), z_i en q7 7, z_i en q15 24] := hD
  refine va_putF (D := en.1) (ci := 0) (v := .ref q15) (ty := .array .int) (C := RX0) (T := TX0) (N := 4) hx hb hts iw_X0_init_X0 tyX0 tyX0_ok nmX0 hown hE.1 hP hD hS 0 rfl rfl 3 (by decide) (hts (.fieldLink RX0 15 "CreditGame$Credits" "gain" "[I") (by decide +kernel)) (fun _ h9 => h9) rfl hin rfl (by decide +kernel) rfl rfl (Nat.le_of_ble_eq_true rfl) dX0_init_17 (fun H locs hP hD hS => ?_)
  have hP : va_P en.1 vwCl [(h0, .inr (0, [.null, .null, .ref q7, .ref q15])), z_i en q7 7, z_i en q15 24] H := hP
  have hD : va_D A [(h0, .inr (0, [.null, .null, .ref q7, .ref q15])), z_i en q7 7, z_i en q15 24] := hD
  refine lv_aload_n hx hb dX0_init_20 rfl (lv_at hl 0 rfl) ?_
  refine lv_aload_n hx hb dX0_init_21 rfl (lv_at hl 1 rfl) ?_
  refine va_putF (D := en.1) (ci := 0) (v := .ref g) (ty := .object "CreditGame$Graph") (C := RX0) (T := TX0) (N := 4) hx hb hts iw_X0_init_X0 tyX0 tyX0_ok nmX0 hown hE.1 hP hD hS 0 rfl rfl 0 (by decide) (hts (.fieldLink RX0 18 "CreditGame$Credits" "graph" "LCreditGame$Graph;") (by decide +kernel)) (fun _ h9 => h9) rfl hin rfl (by decide +kernel) rfl rfl (Nat.le_of_ble_eq_true rfl) dX0_init_22 (fun H locs hP hD hS => ?_)
  have hP : va_P en.1 vwCl [(h0, .inr (0, [.ref g, .null, .ref q7, .ref q15])), z_i en q7 7, z_i en q15 24] H := hP
  have hD : va_D A [(h0, .inr (0, [.ref g, .null, .ref q7, .ref q15])), z_i en q7 7, z_i en q15 24] := hD
  refine lv_aload_n hx hb dX0_init_25 rfl (lv_at hl 0 rfl) ?_
  refine lv_aload_n hx hb dX0_init_26 rfl (lv_at hl 2 rfl) ?_
  refine va_putF (D := en.1) (ci := 0) (v := .ref v) (ty := .object "CreditGame$Values") (C := RX0) (T := TX0) (N := 4) hx hb hts iw_X0_init_X0 tyX0 tyX0_ok nmX0 hown hE.1 hP hD hS 0 rfl rfl 1 (by decide) (hts (.fieldLink RX0 22 "CreditGame$Credits" "values" "LCreditGame$Values;") (by decide +kernel)) (fun _ h9 => h9) rfl hin rfl (by decide +kernel) rfl rfl (Nat.le_of_ble_eq_true rfl) dX0_init_27 (fun H locs hP hD hS => ?_)
  have hP : va_P en.1 vwCl [(h0, .inr (0, [.ref g, .ref v, .ref q7, .ref q15])), z_i en q7 7, z_i en q15 24] H := hP
  have hD : va_D A [(h0, .inr (0, [.ref g, .ref v, .ref q7, .ref q15])), z_i en q7 7, z_i en q15 24] := hD
  obtain ⟨ad, had⟩ : ∃ z : Nat → Nat, z = fun k => match k with | 0 => h0 | 1 => q7 | 2 => q15 | _ => 0 := ⟨_, rfl⟩
  have hP9 := hP.sub (ws' := w0 en g v ad) [0, 1, 2] (by rw [had]; rfl)
  have hD9 := hD.sub (ws' := w0 en g v ad) [0, 1, 2] (by decide) (by rw [had]; rfl)
  refine W.widen (k := 2) (n := 31) (Nat.le_of_ble_eq_true rfl) (Nat.le_of_ble_eq_true rfl) ?_
  exact W.vret hx hb hr (fun t ht hW => ⟨⟨ad, rfl, by rw [had]; rfl, by rw [ht]; exact hP9, by first | exact hD9 | (rw [hAe]; exact hD9)⟩, hS.F ht⟩) hS.2.2 dX0_init_30
theorem iw_X3_init_X2 : ∀ w ∈ wsX20, w ∈ wsX3_init := by decide +kernel
theorem iw_X3_init_X3 : ∀ w ∈ wsX30, w ∈ wsX3_init := by decide +kernel
set_option maxHeartbeats 400000 in
set_option maxRecDepth 100000 in
/-- new Values -/
theorem cc_X3 (l : Launch) (en : en_T) (h0 sz : Nat) (g : Nat) : Met l yX3_init wsX3_init (rm_ 4 5 30) (ct_Pc en [.ref h0, .ref g] (fun H => H.size = sz ∧ va_P en.1 vwCl [(h0, .inr (3, [.null, .null, .null, .null]))] H)) (va_Qv (fun ad : Nat → Nat => ad 0 = h0) (fun ad t => va_P en.1 vwCl (w3 en g ad) t.heap ∧ va_D (va_A [(h0, .inr (3, [.null, .null, .null, .null]))] sz) (w3 en g ad)) (va_A [(h0, .inr (3, [.null, .null, .null, .null]))] sz)) 5 30 (va_A [(h0, .inr (3, [.null, .null, .null, .null]))] sz) := by
  refine Met.ofW (cc := cX3_init) (maxL := 2) (ret := none) (by decide) rfl ?_
  intro p e s m args below meth co s₁ B hml hv
  obtain ⟨rfl, hE, hsz, hP⟩ := hv
  subst hsz
  have hx := B.exec
  have hb := B.bytes
  have hr := B.returns
  have hts := atoms_spec (ws := wsX3_init) B.pre
  have hown : s.vm.findClass RX3 = some m.cls := findClass_of_methodNamed B.named
  have hlocks := B.notSynchronized
  have hin : meth.name = "<init>" := (name_of_methodNamed B.named B.method).1
  have hD : va_D (va_A [(h0, .inr (3, [.null, .null, .null, .null]))] s.heap.size) [(h0, .inr (3, [.null, .null, .null, .null]))] := va_D1
  generalize hAe : va_A [(h0, .inr (3, [.null, .null, .null, .null]))] s.heap.size = A at hD ⊢
  have hA : ∀ q : Nat, s.heap.size ≤ q → A q := fun q h => by rw [← hAe]; exact Or.inr h
  have hS : va_S A s.heap s.heap [] := va_S.rf
  have hl := lv_entry ([.ref h0, .ref g]) (n := 2) (Nat.le_of_ble_eq_true rfl)
  rw [lg_entry_eq]
  generalize (lg_sl ([.ref h0, .ref g]) ++ List.replicate (2 - (lg_sl ([.ref h0, .ref g])).length) Slot.unset).toArray = ls at hl ⊢
  have hl : lv_has ls 2 [(0, .ref h0), (1, .ref g)] := hl
  refine lv_aload_n hx hb dX3_init_0 rfl (lv_at hl 0 rfl) ?_
  refine W.objInit hx hb hown (hts (.methodLink RX3 3 objectInit) (by decide +kernel)) (hts (.instanceMethod objectInit) (by decide +kernel)) (hts (.code objectInit ⟨#[0xb1]⟩ 1 none) (List.mem_of_getElem? (i := 3) rfl)) rfl (by rw [hml]; exact hl.1) rfl dX3_init_1 (Nat.le_of_ble_eq_true rfl) (Nat.le_of_ble_eq_true rfl) ?_
  refine W.eq (g2 := F0 m 4 ls []) rfl ?_
  refine lv_aload_n hx hb dX3_init_4 rfl (lv_at hl 0 rfl) ?_
  refine va_new (ci := 2) (fs := [.null, .null]) (C := RX2) (T := TX2) (N := 2) hx hb hts iw_X3_init_X2 tyX2 tyX2_ok hown (hts (.classLink RX3 9 RX2) (by decide +kernel)) (hts (.instantiable RX2 2) (by decide +kernel)) (hts (.initialized RX2) (by decide +kernel)) hE.1 hP hD hS hA rfl (fun j hj => by rcases (show j = 0 ∨ j = 1 by omega) with rfl | rfl <;> rfl) (Nat.le_of_ble_eq_true rfl) (Nat.le_of_ble_eq_true rfl) dX3_init_5 (fun q5 H hP hD hS => ?_)
  have hP : va_P en.1 vwCl [(h0, .inr (3, [.null, .null, .null, .null])), (q5, .inr (2, [.null, .null]))] H := hP
  have hD : va_D A [(h0, .inr (3, [.null, .null, .null, .null])), (q5, .inr (2, [.null, .null]))] := hD
  refine lv_dup hx hb dX3_init_8 rfl ?_
  have hPc := hP.sub (ws' := [(q5, .inr (2, [.null, .null]))]) [1] rfl
  have hFc := va_free (wc := [(q5, .inr (2, [.null, .null]))]) hD hS hA [1] rfl
  refine va_callv (va_runIN (As := []) (rest := [.ref q5, .ref h0]) ⟨hx, hb, hml, hown, hts⟩ (cc_X2 l en q5 _) ⟨va_cnB 0 hts gX3_init_X2_init_n11 rfl rfl rfl (hE.2 _ (List.mem_of_getElem? (i := 36) rfl)) (hts (.initialized RX2) (by decide +kernel)) (by decide +kernel) ⟨(Nat.le_of_ble_eq_true rfl), (Nat.le_of_ble_eq_true rfl)⟩, rfl, hts (.instanceMethod yX2_init) (by decide +kernel)⟩ (ct_preS hE ⟨rfl, hPc⟩) rfl rfl hl.1 rfl (lv_room (Nat.le_of_ble_eq_true rfl)) dX3_init_9 ⟨(Nat.le_of_ble_eq_true rfl), (Nat.le_of_ble_eq_true rfl)⟩) hS (fun q _ h => hFc q h) hFc (fun u9 t H1 locs ht hvm hu hB hz1 hk1 hS => ?_)
  obtain ⟨hP1, hD1⟩ := hB
  rw [ht] at hP1
  have hP1 : va_P en.1 vwCl [(q5, .inr (2, [.ref (u9 1), .ref (u9 2)])), z_i en (u9 1) 7, z_i en (u9 2) 7] H1 := by rw [← hu]; exact hP1
  have hD1 : va_D (va_A [(q5, .inr (2, [.null, .null]))] H.size) [(q5, .inr (2, [.ref (u9 1), .ref (u9 2)])), z_i en (u9 1) 7, z_i en (u9 2) 7] := by rw [← hu]; rw [← hu] at hD1; exact hD1
  obtain ⟨hP, hD⟩ := va_join (wr := [(h0, .inr (3, [.null, .null, .null, .null]))]) (w1 := [(q5, .inr (2, [.ref (u9 1), .ref (u9 2)])), z_i en (u9 1) 7, z_i en (u9 2) 7]) hP hD [1] [0] rfl rfl (by decide) (by decide) hk1 hFc hP1 hD1
  generalize H1 = H at hP hS ⊢
  have hP : va_P en.1 vwCl [(h0, .inr (3, [.null, .null, .null, .null])), (q5, .inr (2, [.ref (u9 1), .ref (u9 2)])), z_i en (u9 1) 7, z_i en (u9 2) 7] H := hP
  have hD : va_D A [(h0, .inr (3, [.null, .null, .null, .null])), (q5, .inr (2, [.ref (u9 1), .ref (u9 2)])), z_i en (u9 1) 7, z_i en (u9 2) 7] := hD
  refine va_putF (D := en.1) (ci := 3) (v := .ref q5) (ty := .object "CreditGame$Path") (C := RX3) (T := TX3) (N := 4) hx hb hts iw_X3_init_X3 tyX3 tyX3_ok nmX3 hown hE.1 hP hD hS 0 rfl rfl 1 (by decide) (hts (.fieldLink RX3 12 "CreditGame$Values" "path" "LCreditGame$Path;") (by decide +kernel)) (fun _ h9 => h9) rfl hin rfl (by decide +kernel) rfl rfl (Nat.le_of_ble_eq_true rfl) dX3_init_12 (fun H locs hP hD hS => ?_)
  have hP : va_P en.1 vwCl [(h0, .inr (3, [.null, .ref q5, .null, .null])), (q5, .inr (2, [.ref (u9 1), .ref (u9 2)])), z_i en (u9 1) 7, z_i en (u9 2) 7] H := hP
  have hD : va_D A [(h0, .inr (3, [.null, .ref q5, .null, .null])), (q5, .inr (2, [.ref (u9 1), .ref (u9 2)])), z_i en (u9 1) 7, z_i en (u9 2) 7] := hD
  refine lv_aload_n hx hb dX3_init_15 rfl (lv_at hl 0 rfl) ?_
  refine lv_bipush (v := 7) hx hb dX3_init_16 (by decide) ?_
  refine cn_newa (atype := .boolean) (a0 := (7, .inl (fun _ => 0))) (N' := 7) (ty := .boolean) hx hb (hts (.arrayClass .boolean) (by decide +kernel)) rfl hE en.2.2.2.1 (ra_b hE) hP hD hS hA (fun _ => rfl) (by decide) (by decide) (by decide) (Nat.le_of_ble_eq_true rfl) (Nat.le_of_ble_eq_true rfl) dX3_init_18 (fun q18 H hP hD hS => ?_)
  have hP : va_P en.1 vwCl [(h0, .inr (3, [.null, .ref q5, .null, .null])), (q5, .inr (2, [.ref (u9 1), .ref (u9 2)])), z_i en (u9 1) 7, z_i en (u9 2) 7, z_b en q18 7] H := hP
  have hD : va_D A [(h0, .inr (3, [.null, .ref q5, .null, .null])), (q5, .inr (2, [.ref (u9 1), .ref (u9 2)])), z_i en (u9 1) 7, z_i en (u9 2) 7, z_b en q18 7] := hD
  refine va_putF (D := en.1) (ci := 3) (v := .ref q18) (ty := .array .boolean) (C := RX3) (T := TX3) (N := 4) hx hb hts iw_X3_init_X3 tyX3 tyX3_ok nmX3 hown hE.1 hP hD hS 0 rfl rfl 2 (by decide) (hts (.fieldLink RX3 18 "CreditGame$Values" "known" "[Z") (by decide +kernel)) (fun _ h9 => h9) rfl hin rfl (by decide +kernel) rfl rfl (Nat.le_of_ble_eq_true rfl) dX3_init_20 (fun H locs hP hD hS => ?_)
  have hP : va_P en.1 vwCl [(h0, .inr (3, [.null, .ref q5, .ref q18, .null])), (q5, .inr (2, [.ref (u9 1), .ref (u9 2)])), z_i en (u9 1) 7, z_i en (u9 2) 7, z_b en q18 7] H := hP
  have hD : va_D A [(h0, .inr (3, [.null, .ref q5, .ref q18, .null])), (q5, .inr (2, [.ref (u9 1), .ref (u9 2)])), z_i en (u9 1) 7, z_i en (u9 2) 7, z_b en q18 7] := hD
  refine lv_aload_n hx hb dX3_init_23 rfl (lv_at hl 0 rfl) ?_
  refine lv_bipush (v := 7) hx hb dX3_init_24 (by decide) ?_
  refine cn_newa (atype := .int) (a0 := (7, .inl (fun _ => 0))) (N' := 7) (ty := .int) hx hb (hts (.arrayClass .int) (by decide +kernel)) rfl hE en.2.1 (ra_i hE) hP hD hS hA (fun _ => rfl) (by decide) (by decide) (by decide) (Nat.le_of_ble_eq_true rfl) (Nat.le_of_ble_eq_true rfl) dX3_init_26 (fun q26 H hP hD hS => ?_)
  have hP : va_P en.1 vwCl [(h0, .inr (3, [.null, .ref q5, .ref q18, .null])), (q5, .inr (2, [.ref (u9 1), .ref (u9 2)])), z_i en (u9 1) 7, z_i en (u9 2) 7, z_b en q18 7, z_i en q26 7] H := hP
  have hD : va_D A [(h0, .inr (3, [.null, .ref q5, .ref q18, .null])), (q5, .inr (2, [.ref (u9 1), .ref (u9 2)])), z_i en (u9 1) 7, z_i en (u9 2) 7, z_b en q18 7, z_i en q26 7] := hD
  refine va_putF (D := en.1) (ci := 3) (v := .ref q26) (ty := .array .int) (C := RX3) (T := TX3) (N := 4) hx hb hts iw_X3_init_X3 tyX3 tyX3_ok nmX3 hown hE.1 hP hD hS 0 rfl rfl 3 (by decide) (hts (.fieldLink RX3 22 "CreditGame$Values" "parts" "[I") (by decide +kernel)) (fun _ h9 => h9) rfl hin rfl (by decide +kernel) rfl rfl (Nat.le_of_ble_eq_true rfl) dX3_init_28 (fun H locs hP hD hS => ?_)
  have hP : va_P en.1 vwCl [(h0, .inr (3, [.null, .ref q5, .ref q18, .ref q26])), (q5, .inr (2, [.ref (u9 1), .ref (u9 2)])), z_i en (u9 1) 7, z_i en (u9 2) 7, z_b en q18 7, z_i en q26 7] H := hP
  have hD : va_D A [(h0, .inr (3, [.null, .ref q5, .ref q18, .ref q26])), (q5, .inr (2, [.ref (u9 1), .ref (u9 2)])), z_i en (u9 1) 7, z_i en (u9 2) 7, z_b en q18 7, z_i en q26 7] := hD
  refine lv_aload_n hx hb dX3_init_31 rfl (lv_at hl 0 rfl) ?_
  refine lv_aload_n hx hb dX3_init_32 rfl (lv_at hl 1 rfl) ?_
  refine va_putF (D := en.1) (ci := 3) (v := .ref g) (ty := .object "CreditGame$Graph") (C := RX3) (T := TX3) (N := 4) hx hb hts iw_X3_init_X3 tyX3 tyX3_ok nmX3 hown hE.1 hP hD hS 0 rfl rfl 0 (by decide) (hts (.fieldLink RX3 26 "CreditGame$Values" "graph" "LCreditGame$Graph;") (by decide +kernel)) (fun _ h9 => h9) rfl hin rfl (by decide +kernel) rfl rfl (Nat.le_of_ble_eq_true rfl) dX3_init_33 (fun H locs hP hD hS => ?_)
  have hP : va_P en.1 vwCl [(h0, .inr (3, [.ref g, .ref q5, .ref q18, .ref q26])), (q5, .inr (2, [.ref (u9 1), .ref (u9 2)])), z_i en (u9 1) 7, z_i en (u9 2) 7, z_b en q18 7, z_i en q26 7] H := hP
  have hD : va_D A [(h0, .inr (3, [.ref g, .ref q5, .ref q18, .ref q26])), (q5, .inr (2, [.ref (u9 1), .ref (u9 2)])), z_i en (u9 1) 7, z_i en (u9 2) 7, z_b en q18 7, z_i en q26 7] := hD
  obtain ⟨ad, had⟩ : ∃ z : Nat → Nat, z = fun k => match k with | 0 => h0 | 1 => q5 | 2 => q18 | 3 => q26 | 4 => (u9 1) | 5 => (u9 2) | _ => 0 := ⟨_, rfl⟩
  have hP9 := hP.sub (ws' := w3 en g ad) [0, 1, 4, 5, 2, 3] (by rw [had]; rfl)
  have hD9 := hD.sub (ws' := w3 en g ad) [0, 1, 4, 5, 2, 3] (by decide) (by rw [had]; rfl)
  refine W.widen (k := 5) (n := 30) (Nat.le_of_ble_eq_true rfl) (Nat.le_of_ble_eq_true rfl) ?_
  exact W.vret hx hb hr (fun t ht hW => ⟨⟨ad, rfl, by rw [had]; rfl, by rw [ht]; exact hP9, by first | exact hD9 | (rw [hAe]; exact hD9)⟩, hS.F ht⟩) hS.2.2 dX3_init_36
theorem iw_X1_init_X1 : ∀ w ∈ wsX10, w ∈ wsX1_init := by decide +kernel
set_option maxHeartbeats 400000 in
set_option maxRecDepth 100000 in
/-- new Graph -/
theorem cc_X1 (l : Launch) (en : en_T) (h0 sz : Nat) : Met l yX1_init wsX1_init (rm_ 2 14 268) (cn_Pc en [.ref h0] (fun H => H.size = sz ∧ va_P en.1 vwCl [(h0, .inr (1, [.null, .null, .null, .null, .null, .null, .null, .int 0, .int 0]))] H)) (va_Qv (fun ad : Nat → Nat => ad 0 = h0) (fun ad t => va_P en.1 vwCl (w1 en ad) t.heap ∧ va_D (va_A [(h0, .inr (1, [.null, .null, .null, .null, .null, .null, .null, .int 0, .int 0]))] sz) (w1 en ad)) (va_A [(h0, .inr (1, [.null, .null, .null, .null, .null, .null, .null, .int 0, .int 0]))] sz)) 14 268 (va_A [(h0, .inr (1, [.null, .null, .null, .null, .null, .null, .null, .int 0, .int 0]))] sz) := by
  refine Met.ofW (cc := cX1_init) (maxL := 1) (ret := none) (by decide) rfl ?_
  intro p e s m args below meth co s₁ B hml hv
  obtain ⟨rfl, ⟨hE, hO⟩, hsz, hP⟩ := hv
  subst hsz
  have hx := B.exec
  have hb := B.bytes
  have hr := B.returns
  have hts := atoms_spec (ws := wsX1_init) B.pre
  have hown : s.vm.findClass RX1 = some m.cls := findClass_of_methodNamed B.named
  have hlocks := B.notSynchronized
  have hin : meth.name = "<init>" := (name_of_methodNamed B.named B.method).1
  have hD : va_D (va_A [(h0, .inr (1, [.null, .null, .null, .null, .null, .null, .null, .int 0, .int 0]))] s.heap.size) [(h0, .inr (1, [.null, .null, .null, .null, .null, .null, .null, .int 0, .int 0]))] := va_D1
  generalize hAe : va_A [(h0, .inr (1, [.null, .null, .null, .null, .null, .null, .null, .int 0, .int 0]))] s.heap.size = A at hD ⊢
  have hA : ∀ q : Nat, s.heap.size ≤ q → A q := fun q h => by rw [← hAe]; exact Or.inr h
  have hS : va_S A s.heap s.heap [] := va_S.rf
  have hl := lv_entry ([.ref h0]) (n := 1) (Nat.le_of_ble_eq_true rfl)
  rw [lg_entry_eq]
  generalize (lg_sl ([.ref h0]) ++ List.replicate (1 - (lg_sl ([.ref h0])).length) Slot.unset).toArray = ls at hl ⊢
  have hl : lv_has ls 1 [(0, .ref h0)] := hl
  refine lv_aload_n hx hb dX1_init_0 rfl (lv_at hl 0 rfl) ?_
  refine W.objInit hx hb hown (hts (.methodLink RX1 3 objectInit) (by decide +kernel)) (hts (.instanceMethod objectInit) (by decide +kernel)) (hts (.code objectInit ⟨#[0xb1]⟩ 1 none) (List.mem_of_getElem? (i := 3) rfl)) rfl (by rw [hml]; exact hl.1) rfl dX1_init_1 (Nat.le_of_ble_eq_true rfl) (Nat.le_of_ble_eq_true rfl) ?_
  refine W.eq (g2 := F0 m 4 ls []) rfl ?_
  refine lv_aload_n hx hb dX1_init_4 rfl (lv_at hl 0 rfl) ?_
  refine lv_bipush (v := 7) hx hb dX1_init_5 (by decide) ?_
  refine cn_newa (atype := .int) (a0 := (7, .inl (fun _ => 0))) (N' := 7) (ty := .int) hx hb (hts (.arrayClass .int) (by decide +kernel)) rfl hE en.2.1 (ra_i hE) hP hD hS hA (fun _ => rfl) (by decide) (by decide) (by decide) (Nat.le_of_ble_eq_true rfl) (Nat.le_of_ble_eq_true rfl) dX1_init_7 (fun q7 H hP hD hS => ?_)
  have hP : va_P en.1 vwCl [(h0, .inr (1, [.null, .null, .null, .null, .null, .null, .null, .int 0, .int 0])), z_i en q7 7] H := hP
  have hD : va_D A [(h0, .inr (1, [.null, .null, .null, .null, .null, .null, .null, .int 0, .int 0])), z_i en q7 7] := hD
  refine va_putF (D := en.1) (ci := 1) (v := .ref q7) (ty := .array .int) (C := RX1) (T := TX1) (N := 9) hx hb hts iw_X1_init_X1 tyX1 tyX1_ok nmX1 hown hE.1 hP hD hS 0 rfl rfl 0 (by decide) (hts (.fieldLink RX1 9 "CreditGame$Graph" "owner" "[I") (by decide +kernel)) (fun _ h9 => h9) rfl hin rfl (by decide +kernel) rfl rfl (Nat.le_of_ble_eq_true rfl) dX1_init_9 (fun H locs hP hD hS => ?_)
  have hP : va_P en.1 vwCl [(h0, .inr (1, [.ref q7, .null, .null, .null, .null, .null, .null, .int 0, .int 0])), z_i en q7 7] H := hP
  have hD : va_D A [(h0, .inr (1, [.ref q7, .null, .null, .null, .null, .null, .null, .int 0, .int 0])), z_i en q7 7] := hD
  refine lv_aload_n hx hb dX1_init_12 rfl (lv_at hl 0 rfl) ?_
  refine lv_bipush (v := 7) hx hb dX1_init_13 (by decide) ?_
  refine cn_newa (atype := .int) (a0 := (7, .inl (fun _ => 0))) (N' := 7) (ty := .int) hx hb (hts (.arrayClass .int) (by decide +kernel)) rfl hE en.2.1 (ra_i hE) hP hD hS hA (fun _ => rfl) (by decide) (by decide) (by decide) (Nat.le_of_ble_eq_true rfl) (Nat.le_of_ble_eq_true rfl) dX1_init_15 (fun q15 H hP hD hS => ?_)
  have hP : va_P en.1 vwCl [(h0, .inr (1, [.ref q7, .null, .null, .null, .null, .null, .null, .int 0, .int 0])), z_i en q7 7, z_i en q15 7] H := hP
  have hD : va_D A [(h0, .inr (1, [.ref q7, .null, .null, .null, .null, .null, .null, .int 0, .int 0])), z_i en q7 7, z_i en q15 7] := hD
  refine va_putF (D := en.1) (ci := 1) (v := .ref q15) (ty := .array .int) (C := RX1) (T := TX1) (N := 9) hx hb hts iw_X1_init_X1 tyX1 tyX1_ok nmX1 hown hE.1 hP hD hS 0 rfl rfl 1 (by decide) (hts (.fieldLink RX1 15 "CreditGame$Graph" "fixedTo" "[I") (by decide +kernel)) (fun _ h9 => h9) rfl hin rfl (by decide +kernel) rfl rfl (Nat.le_of_ble_eq_true rfl) dX1_init_17 (fun H locs hP hD hS => ?_)
  have hP : va_P en.1 vwCl [(h0, .inr (1, [.ref q7, .ref q15, .null, .null, .null, .null, .null, .int 0, .int 0])), z_i en q7 7, z_i en q15 7] H := hP
  have hD : va_D A [(h0, .inr (1, [.ref q7, .ref q15, .null, .null, .null, .null, .null, .int 0, .int 0])), z_i en q7 7, z_i en q15 7] := hD
  refine lv_aload_n hx hb dX1_init_20 rfl (lv_at hl 0 rfl) ?_
  refine lv_bipush (v := 7) hx hb dX1_init_21 (by decide) ?_
  refine cn_newa (atype := .int) (a0 := (7, .inl (fun _ => 0))) (N' := 7) (ty := .int) hx hb (hts (.arrayClass .int) (by decide +kernel)) rfl hE en.2.1 (ra_i hE) hP hD hS hA (fun _ => rfl) (by decide) (by decide) (by decide) (Nat.le_of_ble_eq_true rfl) (Nat.le_of_ble_eq_true rfl) dX1_init_23 (fun q23 H hP hD hS => ?_)
  have hP : va_P en.1 vwCl [(h0, .inr (1, [.ref q7, .ref q15, .null, .null, .null, .null, .null, .int 0, .int 0])), z_i en q7 7, z_i en q15 7, z_i en q23 7] H := hP
  have hD : va_D A [(h0, .inr (1, [.ref q7, .ref q15, .null, .null, .null, .null, .null, .int 0, .int 0])), z_i en q7 7, z_i en q15 7, z_i en q23 7] := hD
  refine va_putF (D := en.1) (ci := 1) (v := .ref q23) (ty := .array .int) (C := RX1) (T := TX1) (N := 9) hx hb hts iw_X1_init_X1 tyX1 tyX1_ok nmX1 hown hE.1 hP hD hS 0 rfl rfl 2 (by decide) (hts (.fieldLink RX1 18 "CreditGame$Graph" "outCount" "[I") (by decide +kernel)) (fun _ h9 => h9) rfl hin rfl (by decide +kernel) rfl rfl (Nat.le_of_ble_eq_true rfl) dX1_init_25 (fun H locs hP hD hS => ?_)
  have hP : va_P en.1 vwCl [(h0, .inr (1, [.ref q7, .ref q15, .ref q23, .null, .null, .null, .null, .int 0, .int 0])), z_i en q7 7, z_i en q15 7, z_i en q23 7] H := hP
  have hD : va_D A [(h0, .inr (1, [.ref q7, .ref q15, .ref q23, .null, .null, .null, .null, .int 0, .int 0])), z_i en q7 7, z_i en q15 7, z_i en q23 7] := hD
  refine lv_aload_n hx hb dX1_init_28 rfl (lv_at hl 0 rfl) ?_
  refine lv_bipush (v := 7) hx hb dX1_init_29 (by decide) ?_
  refine lv_bipush (v := 24) hx hb dX1_init_31 (by decide) ?_
  refine va_mna (X := [(h0, .inr (1, [.ref q7, .ref q15, .ref q23, .null, .null, .null, .null, .int 0, .int 0])), z_i en q7 7, z_i en q15 7, z_i en q23 7]) (L := []) (f := fun _ => .inl (en.2.1, 24, .inl (fun _ => 0))) (z := (24, .inl (fun _ => 0))) (ty := .int) (cy := en.2.1) (N' := 7) (K' := 24) hx hb hown (hts (.classLink RX1 21 "[[I") (by decide +kernel)) hO (hts (.arrayClass .int) (by decide +kernel)) (hE.1.2 0 _ rfl).2 hE.1 hP hD hS hA (by decide) (by decide) (by decide) (by decide) (Nat.le_of_ble_eq_true rfl) (Nat.le_of_ble_eq_true rfl) (Nat.le_of_ble_eq_true rfl) rfl rfl (Nat.le_of_ble_eq_true rfl) (Nat.le_of_ble_eq_true rfl) (fun c => mna_z c) dX1_init_33 (fun q33 r cA H hrI _ hK9 hP hD hS => ?_)
  obtain rfl : cA = en.2.2.2.2 := ra_a hE cA (hK9.2 4 (cA, .array .int) rfl).2
  rw [mna_pl] at hP hD
  have hP : va_P en.1 vwCl [(h0, .inr (1, [.ref q7, .ref q15, .ref q23, .null, .null, .null, .null, .int 0, .int 0])), z_i en q7 7, z_i en q15 7, z_i en q23 7, (q33, .inl (en.2.2.2.2, 7, .inr (.inr (.inr (.inr (fun i => if i < 7 then some (r i) else none)))))), z_i en (r 0) 24, z_i en (r 1) 24, z_i en (r 2) 24, z_i en (r 3) 24, z_i en (r 4) 24, z_i en (r 5) 24, z_i en (r 6) 24] H := hP
  have hD : va_D A [(h0, .inr (1, [.ref q7, .ref q15, .ref q23, .null, .null, .null, .null, .int 0, .int 0])), z_i en q7 7, z_i en q15 7, z_i en q23 7, (q33, .inl (en.2.2.2.2, 7, .inr (.inr (.inr (.inr (fun i => if i < 7 then some (r i) else none)))))), z_i en (r 0) 24, z_i en (r 1) 24, z_i en (r 2) 24, z_i en (r 3) 24, z_i en (r 4) 24, z_i en (r 5) 24, z_i en (r 6) 24] := hD
  refine va_putF (D := en.1) (ci := 1) (v := .ref q33) (ty := .array (.array .int)) (C := RX1) (T := TX1) (N := 9) hx hb hts iw_X1_init_X1 tyX1 tyX1_ok nmX1 hown hE.1 hP hD hS 0 rfl rfl 3 (by decide) (hts (.fieldLink RX1 23 "CreditGame$Graph" "out" "[[I") (by decide +kernel)) (fun _ h9 => h9) rfl hin rfl (by decide +kernel) rfl rfl (Nat.le_of_ble_eq_true rfl) dX1_init_37 (fun H locs hP hD hS => ?_)
  have hP : va_P en.1 vwCl [(h0, .inr (1, [.ref q7, .ref q15, .ref q23, .ref q33, .null, .null, .null, .int 0, .int 0])), z_i en q7 7, z_i en q15 7, z_i en q23 7, (q33, .inl (en.2.2.2.2, 7, .inr (.inr (.inr (.inr (fun i => if i < 7 then some (r i) else none)))))), z_i en (r 0) 24, z_i en (r 1) 24, z_i en (r 2) 24, z_i en (r 3) 24, z_i en (r 4) 24, z_i en (r 5) 24, z_i en (r 6) 24] H := hP
  have hD : va_D A [(h0, .inr (1, [.ref q7, .ref q15, .ref q23, .ref q33, .null, .null, .null, .int 0, .int 0])), z_i en q7 7, z_i en q15 7, z_i en q23 7, (q33, .inl (en.2.2.2.2, 7, .inr (.inr (.inr (.inr (fun i => if i < 7 then some (r i) else none)))))), z_i en (r 0) 24, z_i en (r 1) 24, z_i en (r 2) 24, z_i en (r 3) 24, z_i en (r 4) 24, z_i en (r 5) 24, z_i en (r 6) 24] := hD
  refine lv_aload_n hx hb dX1_init_40 rfl (lv_at hl 0 rfl) ?_
  refine lv_bipush (v := 24) hx hb dX1_init_41 (by decide) ?_
  refine cn_newa (atype := .int) (a0 := (24, .inl (fun _ => 0))) (N' := 24) (ty := .int) hx hb (hts (.arrayClass .int) (by decide +kernel)) rfl hE en.2.1 (ra_i hE) hP hD hS hA (fun _ => rfl) (by decide) (by decide) (by decide) (Nat.le_of_ble_eq_true rfl) (Nat.le_of_ble_eq_true rfl) dX1_init_43 (fun q43 H hP hD hS => ?_)
  have hP : va_P en.1 vwCl [(h0, .inr (1, [.ref q7, .ref q15, .ref q23, .ref q33, .null, .null, .null, .int 0, .int 0])), z_i en q7 7, z_i en q15 7, z_i en q23 7, (q33, .inl (en.2.2.2.2, 7, .inr (.inr (.inr (.inr (fun i => if i < 7 then some (r i) else none)))))), z_i en (r 0) 24, z_i en (r 1) 24, z_i en (r 2) 24, z_i en (r 3) 24, z_i en (r 4) 24, z_i en (r 5) 24, z_i en (r 6) 24, z_i en q43 24] H := hP
  have hD : va_D A [(h0, .inr (1, [.ref q7, .ref q15, .ref q23, .ref q33, .null, .null, .null, .int 0, .int 0])), z_i en q7 7, z_i en q15 7, z_i en q23 7, (q33, .inl (en.2.2.2.2, 7, .inr (.inr (.inr (.inr (fun i => if i < 7 then some (r i) else none)))))), z_i en (r 0) 24, z_i en (r 1) 24, z_i en (r 2) 24, z_i en (r 3) 24, z_i en (r 4) 24, z_i en (r 5) 24, z_i en (r 6) 24, z_i en q43 24] := hD
  refine va_putF (D := en.1) (ci := 1) (v := .ref q43) (ty := .array .int) (C := RX1) (T := TX1) (N := 9) hx hb hts iw_X1_init_X1 tyX1 tyX1_ok nmX1 hown hE.1 hP hD hS 0 rfl rfl 4 (by decide) (hts (.fieldLink RX1 26 "CreditGame$Graph" "source" "[I") (by decide +kernel)) (fun _ h9 => h9) rfl hin rfl (by decide +kernel) rfl rfl (Nat.le_of_ble_eq_true rfl) dX1_init_45 (fun H locs hP hD hS => ?_)
  have hP : va_P en.1 vwCl [(h0, .inr (1, [.ref q7, .ref q15, .ref q23, .ref q33, .ref q43, .null, .null, .int 0, .int 0])), z_i en q7 7, z_i en q15 7, z_i en q23 7, (q33, .inl (en.2.2.2.2, 7, .inr (.inr (.inr (.inr (fun i => if i < 7 then some (r i) else none)))))), z_i en (r 0) 24, z_i en (r 1) 24, z_i en (r 2) 24, z_i en (r 3) 24, z_i en (r 4) 24, z_i en (r 5) 24, z_i en (r 6) 24, z_i en q43 24] H := hP
  have hD : va_D A [(h0, .inr (1, [.ref q7, .ref q15, .ref q23, .ref q33, .ref q43, .null, .null, .int 0, .int 0])), z_i en q7 7, z_i en q15 7, z_i en q23 7, (q33, .inl (en.2.2.2.2, 7, .inr (.inr (.inr (.inr (fun i => if i < 7 then some (r i) else none)))))), z_i en (r 0) 24, z_i en (r 1) 24, z_i en (r 2) 24, z_i en (r 3) 24, z_i en (r 4) 24, z_i en (r 5) 24, z_i en (r 6) 24, z_i en q43 24] := hD
  refine lv_aload_n hx hb dX1_init_48 rfl (lv_at hl 0 rfl) ?_
  refine lv_bipush (v := 24) hx hb dX1_init_49 (by decide) ?_
  refine cn_newa (atype := .int) (a0 := (24, .inl (fun _ => 0))) (N' := 24) (ty := .int) hx hb (hts (.arrayClass .int) (by decide +kernel)) rfl hE en.2.1 (ra_i hE) hP hD hS hA (fun _ => rfl) (by decide) (by decide) (by decide) (Nat.le_of_ble_eq_true rfl) (Nat.le_of_ble_eq_true rfl) dX1_init_51 (fun q51 H hP hD hS => ?_)
  have hP : va_P en.1 vwCl [(h0, .inr (1, [.ref q7, .ref q15, .ref q23, .ref q33, .ref q43, .null, .null, .int 0, .int 0])), z_i en q7 7, z_i en q15 7, z_i en q23 7, (q33, .inl (en.2.2.2.2, 7, .inr (.inr (.inr (.inr (fun i => if i < 7 then some (r i) else none)))))), z_i en (r 0) 24, z_i en (r 1) 24, z_i en (r 2) 24, z_i en (r 3) 24, z_i en (r 4) 24, z_i en (r 5) 24, z_i en (r 6) 24, z_i en q43 24, z_i en q51 24] H := hP
  have hD : va_D A [(h0, .inr (1, [.ref q7, .ref q15, .ref q23, .ref q33, .ref q43, .null, .null, .int 0, .int 0])), z_i en q7 7, z_i en q15 7, z_i en q23 7, (q33, .inl (en.2.2.2.2, 7, .inr (.inr (.inr (.inr (fun i => if i < 7 then some (r i) else none)))))), z_i en (r 0) 24, z_i en (r 1) 24, z_i en (r 2) 24, z_i en (r 3) 24, z_i en (r 4) 24, z_i en (r 5) 24, z_i en (r 6) 24, z_i en q43 24, z_i en q51 24] := hD
  refine va_putF (D := en.1) (ci := 1) (v := .ref q51) (ty := .array .int) (C := RX1) (T := TX1) (N := 9) hx hb hts iw_X1_init_X1 tyX1 tyX1_ok nmX1 hown hE.1 hP hD hS 0 rfl rfl 5 (by decide) (hts (.fieldLink RX1 29 "CreditGame$Graph" "target" "[I") (by decide +kernel)) (fun _ h9 => h9) rfl hin rfl (by decide +kernel) rfl rfl (Nat.le_of_ble_eq_true rfl) dX1_init_53 (fun H locs hP hD hS => ?_)
  have hP : va_P en.1 vwCl [(h0, .inr (1, [.ref q7, .ref q15, .ref q23, .ref q33, .ref q43, .ref q51, .null, .int 0, .int 0])), z_i en q7 7, z_i en q15 7, z_i en q23 7, (q33, .inl (en.2.2.2.2, 7, .inr (.inr (.inr (.inr (fun i => if i < 7 then some (r i) else none)))))), z_i en (r 0) 24, z_i en (r 1) 24, z_i en (r 2) 24, z_i en (r 3) 24, z_i en (r 4) 24, z_i en (r 5) 24, z_i en (r 6) 24, z_i en q43 24, z_i en q51 24] H := hP
  have hD : va_D A [(h0, .inr (1, [.ref q7, .ref q15, .ref q23, .ref q33, .ref q43, .ref q51, .null, .int 0, .int 0])), z_i en q7 7, z_i en q15 7, z_i en q23 7, (q33, .inl (en.2.2.2.2, 7, .inr (.inr (.inr (.inr (fun i => if i < 7 then some (r i) else none)))))), z_i en (r 0) 24, z_i en (r 1) 24, z_i en (r 2) 24, z_i en (r 3) 24, z_i en (r 4) 24, z_i en (r 5) 24, z_i en (r 6) 24, z_i en q43 24, z_i en q51 24] := hD
  refine lv_aload_n hx hb dX1_init_56 rfl (lv_at hl 0 rfl) ?_
  refine lv_bipush (v := 24) hx hb dX1_init_57 (by decide) ?_
  refine cn_newa (atype := .int) (a0 := (24, .inl (fun _ => 0))) (N' := 24) (ty := .int) hx hb (hts (.arrayClass .int) (by decide +kernel)) rfl hE en.2.1 (ra_i hE) hP hD hS hA (fun _ => rfl) (by decide) (by decide) (by decide) (Nat.le_of_ble_eq_true rfl) (Nat.le_of_ble_eq_true rfl) dX1_init_59 (fun q59 H hP hD hS => ?_)
  have hP : va_P en.1 vwCl [(h0, .inr (1, [.ref q7, .ref q15, .ref q23, .ref q33, .ref q43, .ref q51, .null, .int 0, .int 0])), z_i en q7 7, z_i en q15 7, z_i en q23 7, (q33, .inl (en.2.2.2.2, 7, .inr (.inr (.inr (.inr (fun i => if i < 7 then some (r i) else none)))))), z_i en (r 0) 24, z_i en (r 1) 24, z_i en (r 2) 24, z_i en (r 3) 24, z_i en (r 4) 24, z_i en (r 5) 24, z_i en (r 6) 24, z_i en q43 24, z_i en q51 24, z_i en q59 24] H := hP
  have hD : va_D A [(h0, .inr (1, [.ref q7, .ref q15, .ref q23, .ref q33, .ref q43, .ref q51, .null, .int 0, .int 0])), z_i en q7 7, z_i en q15 7, z_i en q23 7, (q33, .inl (en.2.2.2.2, 7, .inr (.inr (.inr (.inr (fun i => if i < 7 then some (r i) else none)))))), z_i en (r 0) 24, z_i en (r 1) 24, z_i en (r 2) 24, z_i en (r 3) 24, z_i en (r 4) 24, z_i en (r 5) 24, z_i en (r 6) 24, z_i en q43 24, z_i en q51 24, z_i en q59 24] := hD
  refine va_putF (D := en.1) (ci := 1) (v := .ref q59) (ty := .array .int) (C := RX1) (T := TX1) (N := 9) hx hb hts iw_X1_init_X1 tyX1 tyX1_ok nmX1 hown hE.1 hP hD hS 0 rfl rfl 6 (by decide) (hts (.fieldLink RX1 32 "CreditGame$Graph" "weight" "[I") (by decide +kernel)) (fun _ h9 => h9) rfl hin rfl (by decide +kernel) rfl rfl (Nat.le_of_ble_eq_true rfl) dX1_init_61 (fun H locs hP hD hS => ?_)
  have hP : va_P en.1 vwCl [(h0, .inr (1, [.ref q7, .ref q15, .ref q23, .ref q33, .ref q43, .ref q51, .ref q59, .int 0, .int 0])), z_i en q7 7, z_i en q15 7, z_i en q23 7, (q33, .inl (en.2.2.2.2, 7, .inr (.inr (.inr (.inr (fun i => if i < 7 then some (r i) else none)))))), z_i en (r 0) 24, z_i en (r 1) 24, z_i en (r 2) 24, z_i en (r 3) 24, z_i en (r 4) 24, z_i en (r 5) 24, z_i en (r 6) 24, z_i en q43 24, z_i en q51 24, z_i en q59 24] H := hP
  have hD : va_D A [(h0, .inr (1, [.ref q7, .ref q15, .ref q23, .ref q33, .ref q43, .ref q51, .ref q59, .int 0, .int 0])), z_i en q7 7, z_i en q15 7, z_i en q23 7, (q33, .inl (en.2.2.2.2, 7, .inr (.inr (.inr (.inr (fun i => if i < 7 then some (r i) else none)))))), z_i en (r 0) 24, z_i en (r 1) 24, z_i en (r 2) 24, z_i en (r 3) 24, z_i en (r 4) 24, z_i en (r 5) 24, z_i en (r 6) 24, z_i en q43 24, z_i en q51 24, z_i en q59 24] := hD
  refine lv_aload_n hx hb dX1_init_64 rfl (lv_at hl 0 rfl) ?_
  refine lv_iconst (v := 0) hx hb dX1_init_65 (by decide) ?_
  refine va_put (D := en.1) (ci := 1) (v := .int 0) (ty := .int) (C := RX1) (T := TX1) (N := 9) hx hb hts iw_X1_init_X1 tyX1 tyX1_ok nmX1 hown hE.1 hP hD hS 0 rfl rfl 7 (by decide) (hts (.fieldLink RX1 35 "CreditGame$Graph" "vertexCount" "I") (by decide +kernel)) (fun _ h9 => h9) rfl (by decide +kernel) rfl rfl (Nat.le_of_ble_eq_true rfl) dX1_init_66 (fun H locs hP hD hS => ?_)
  have hP : va_P en.1 vwCl [(h0, .inr (1, [.ref q7, .ref q15, .ref q23, .ref q33, .ref q43, .ref q51, .ref q59, .int 0, .int 0])), z_i en q7 7, z_i en q15 7, z_i en q23 7, (q33, .inl (en.2.2.2.2, 7, .inr (.inr (.inr (.inr (fun i => if i < 7 then some (r i) else none)))))), z_i en (r 0) 24, z_i en (r 1) 24, z_i en (r 2) 24, z_i en (r 3) 24, z_i en (r 4) 24, z_i en (r 5) 24, z_i en (r 6) 24, z_i en q43 24, z_i en q51 24, z_i en q59 24] H := hP
  have hD : va_D A [(h0, .inr (1, [.ref q7, .ref q15, .ref q23, .ref q33, .ref q43, .ref q51, .ref q59, .int 0, .int 0])), z_i en q7 7, z_i en q15 7, z_i en q23 7, (q33, .inl (en.2.2.2.2, 7, .inr (.inr (.inr (.inr (fun i => if i < 7 then some (r i) else none)))))), z_i en (r 0) 24, z_i en (r 1) 24, z_i en (r 2) 24, z_i en (r 3) 24, z_i en (r 4) 24, z_i en (r 5) 24, z_i en (r 6) 24, z_i en q43 24, z_i en q51 24, z_i en q59 24] := hD
  refine lv_aload_n hx hb dX1_init_69 rfl (lv_at hl 0 rfl) ?_
  refine lv_iconst (v := 0) hx hb dX1_init_70 (by decide) ?_
  refine va_put (D := en.1) (ci := 1) (v := .int 0) (ty := .int) (C := RX1) (T := TX1) (N := 9) hx hb hts iw_X1_init_X1 tyX1 tyX1_ok nmX1 hown hE.1 hP hD hS 0 rfl rfl 8 (by decide) (hts (.fieldLink RX1 39 "CreditGame$Graph" "edgeCount" "I") (by decide +kernel)) (fun _ h9 => h9) rfl (by decide +kernel) rfl rfl (Nat.le_of_ble_eq_true rfl) dX1_init_71 (fun H locs hP hD hS => ?_)
  have hP : va_P en.1 vwCl [(h0, .inr (1, [.ref q7, .ref q15, .ref q23, .ref q33, .ref q43, .ref q51, .ref q59, .int 0, .int 0])), z_i en q7 7, z_i en q15 7, z_i en q23 7, (q33, .inl (en.2.2.2.2, 7, .inr (.inr (.inr (.inr (fun i => if i < 7 then some (r i) else none)))))), z_i en (r 0) 24, z_i en (r 1) 24, z_i en (r 2) 24, z_i en (r 3) 24, z_i en (r 4) 24, z_i en (r 5) 24, z_i en (r 6) 24, z_i en q43 24, z_i en q51 24, z_i en q59 24] H := hP
  have hD : va_D A [(h0, .inr (1, [.ref q7, .ref q15, .ref q23, .ref q33, .ref q43, .ref q51, .ref q59, .int 0, .int 0])), z_i en q7 7, z_i en q15 7, z_i en q23 7, (q33, .inl (en.2.2.2.2, 7, .inr (.inr (.inr (.inr (fun i => if i < 7 then some (r i) else none)))))), z_i en (r 0) 24, z_i en (r 1) 24, z_i en (r 2) 24, z_i en (r 3) 24, z_i en (r 4) 24, z_i en (r 5) 24, z_i en (r 6) 24, z_i en q43 24, z_i en q51 24, z_i en q59 24] := hD
  obtain ⟨ad, had⟩ : ∃ z : Nat → Nat, z = fun k => if 8 ≤ k then r (k - 8) else match k with | 0 => h0 | 1 => q7 | 2 => q15 | 3 => q23 | 4 => q33 | 5 => q43 | 6 => q51 | 7 => q59 | _ => 0 := ⟨_, rfl⟩
  have er : (fun i => if i < 7 then some (r i) else none) = (fun i => if i < 7 then some (ad (8 + i)) else none) := by
    funext i
    have h9 : ad (8 + i) = r i := by
      rw [had]
      show (if 8 ≤ 8 + i then r ((8 + i) - 8) else _) = _
      rw [if_pos (by omega), show 8 + i - 8 = i by omega]
    rw [h9]
  rw [er] at hP hD
  have hP9 := hP.sub (ws' := w1 en ad) [0, 1, 2, 3, 4, 12, 13, 14, 5, 6, 7, 8, 9, 10, 11] (by rw [had]; rfl)
  have hD9 := hD.sub (ws' := w1 en ad) [0, 1, 2, 3, 4, 12, 13, 14, 5, 6, 7, 8, 9, 10, 11] (by decide) (by rw [had]; rfl)
  refine W.widen (k := 14) (n := 268) (Nat.le_of_ble_eq_true rfl) (Nat.le_of_ble_eq_true rfl) ?_
  exact W.vret hx hb hr (fun t ht hW => ⟨⟨ad, rfl, by rw [had]; rfl, by rw [ht]; exact hP9, by first | exact hD9 | (rw [hAe]; exact hD9)⟩, hS.F ht⟩) hS.2.2 dX1_init_74
theorem iw_X5_init_X5 : ∀ w ∈ wsX50, w ∈ wsX5_init := by decide +kernel
set_option maxHeartbeats 400000 in
set_option maxRecDepth 100000 in
/-- new CreditGameModel -/
theorem cc_X5 (l : Launch) (en : en_T) (h0 sz : Nat) : Met l yX5_init wsX5_init (rm_ 2 12 135) (ct_Pc en [.ref h0] (fun H => H.size = sz ∧ va_P en.1 vwCl [(h0, .inr (5, [.int 0, .int 0, .null, .null, .int 0, .null, .null, .null, .int 0, .null, .null, .null, .null, .null, .null, .null]))] H)) (va_Qv (fun ad : Nat → Nat => ad 0 = h0) (fun ad t => va_P en.1 vwCl (mw en ad d0) t.heap ∧ va_D (va_A [(h0, .inr (5, [.int 0, .int 0, .null, .null, .int 0, .null, .null, .null, .int 0, .null, .null, .null, .null, .null, .null, .null]))] sz) (mw en ad d0)) (va_A [(h0, .inr (5, [.int 0, .int 0, .null, .null, .int 0, .null, .null, .null, .int 0, .null, .null, .null, .null, .null, .null, .null]))] sz)) 12 135 (va_A [(h0, .inr (5, [.int 0, .int 0, .null, .null, .int 0, .null, .null, .null, .int 0, .null, .null, .null, .null, .null, .null, .null]))] sz) := by
  refine Met.ofW (cc := cX5_init) (maxL := 1) (ret := none) (by decide) rfl ?_
  intro p e s m args below meth co s₁ B hml hv
  obtain ⟨rfl, hE, hsz, hP⟩ := hv
  subst hsz
  have hx := B.exec
  have hb := B.bytes
  have hr := B.returns
  have hts := atoms_spec (ws := wsX5_init) B.pre
  have hown : s.vm.findClass RX5 = some m.cls := findClass_of_methodNamed B.named
  have hlocks := B.notSynchronized
  have hin : meth.name = "<init>" := (name_of_methodNamed B.named B.method).1
  have hD : va_D (va_A [(h0, .inr (5, [.int 0, .int 0, .null, .null, .int 0, .null, .null, .null, .int 0, .null, .null, .null, .null, .null, .null, .null]))] s.heap.size) [(h0, .inr (5, [.int 0, .int 0, .null, .null, .int 0, .null, .null, .null, .int 0, .null, .null, .null, .null, .null, .null, .null]))] := va_D1
  generalize hAe : va_A [(h0, .inr (5, [.int 0, .int 0, .null, .null, .int 0, .null, .null, .null, .int 0, .null, .null, .null, .null, .null, .null, .null]))] s.heap.size = A at hD ⊢
  have hA : ∀ q : Nat, s.heap.size ≤ q → A q := fun q h => by rw [← hAe]; exact Or.inr h
  have hS : va_S A s.heap s.heap [] := va_S.rf
  have hl := lv_entry ([.ref h0]) (n := 1) (Nat.le_of_ble_eq_true rfl)
  rw [lg_entry_eq]
  generalize (lg_sl ([.ref h0]) ++ List.replicate (1 - (lg_sl ([.ref h0])).length) Slot.unset).toArray = ls at hl ⊢
  have hl : lv_has ls 1 [(0, .ref h0)] := hl
  refine lv_aload_n hx hb dX5_init_0 rfl (lv_at hl 0 rfl) ?_
  refine W.objInit hx hb hown (hts (.methodLink RX5 1 objectInit) (by decide +kernel)) (hts (.instanceMethod objectInit) (by decide +kernel)) (hts (.code objectInit ⟨#[0xb1]⟩ 1 none) (List.mem_of_getElem? (i := 3) rfl)) rfl (by rw [hml]; exact hl.1) rfl dX5_init_1 (Nat.le_of_ble_eq_true rfl) (Nat.le_of_ble_eq_true rfl) ?_
  refine W.eq (g2 := F0 m 4 ls []) rfl ?_
  refine lv_aload_n hx hb dX5_init_4 rfl (lv_at hl 0 rfl) ?_
  refine lv_bipush (v := 7) hx hb dX5_init_5 (by decide) ?_
  refine cn_newa (atype := .int) (a0 := (7, .inl (fun _ => 0))) (N' := 7) (ty := .int) hx hb (hts (.arrayClass .int) (by decide +kernel)) rfl hE en.2.1 (ra_i hE) hP hD hS hA (fun _ => rfl) (by decide) (by decide) (by decide) (Nat.le_of_ble_eq_true rfl) (Nat.le_of_ble_eq_true rfl) dX5_init_7 (fun q7 H hP hD hS => ?_)
  have hP : va_P en.1 vwCl [(h0, .inr (5, [.int 0, .int 0, .null, .null, .int 0, .null, .null, .null, .int 0, .null, .null, .null, .null, .null, .null, .null])), z_i en q7 7] H := hP
  have hD : va_D A [(h0, .inr (5, [.int 0, .int 0, .null, .null, .int 0, .null, .null, .null, .int 0, .null, .null, .null, .null, .null, .null, .null])), z_i en q7 7] := hD
  refine va_putF (D := en.1) (ci := 5) (v := .ref q7) (ty := .array .int) (C := RX5) (T := TX5) (N := 16) hx hb hts iw_X5_init_X5 tyX5 tyX5_ok nmX5 hown hE.1 hP hD hS 0 rfl rfl 2 (by decide) (hts (.fieldLink RX5 7 "CreditGameModel" "player" "[I") (by decide +kernel)) (fun _ h9 => h9) rfl hin rfl (by decide +kernel) rfl rfl (Nat.le_of_ble_eq_true rfl) dX5_init_9 (fun H locs hP hD hS => ?_)
  have hP : va_P en.1 vwCl [(h0, .inr (5, [.int 0, .int 0, .ref q7, .null, .int 0, .null, .null, .null, .int 0, .null, .null, .null, .null, .null, .null, .null])), z_i en q7 7] H := hP
  have hD : va_D A [(h0, .inr (5, [.int 0, .int 0, .ref q7, .null, .int 0, .null, .null, .null, .int 0, .null, .null, .null, .null, .null, .null, .null])), z_i en q7 7] := hD
  refine lv_aload_n hx hb dX5_init_12 rfl (lv_at hl 0 rfl) ?_
  refine lv_bipush (v := 7) hx hb dX5_init_13 (by decide) ?_
  refine cn_newa (atype := .int) (a0 := (7, .inl (fun _ => 0))) (N' := 7) (ty := .int) hx hb (hts (.arrayClass .int) (by decide +kernel)) rfl hE en.2.1 (ra_i hE) hP hD hS hA (fun _ => rfl) (by decide) (by decide) (by decide) (Nat.le_of_ble_eq_true rfl) (Nat.le_of_ble_eq_true rfl) dX5_init_15 (fun q15 H hP hD hS => ?_)
  have hP : va_P en.1 vwCl [(h0, .inr (5, [.int 0, .int 0, .ref q7, .null, .int 0, .null, .null, .null, .int 0, .null, .null, .null, .null, .null, .null, .null])), z_i en q7 7, z_i en q15 7] H := hP
  have hD : va_D A [(h0, .inr (5, [.int 0, .int 0, .ref q7, .null, .int 0, .null, .null, .null, .int 0, .null, .null, .null, .null, .null, .null, .null])), z_i en q7 7, z_i en q15 7] := hD
  refine va_putF (D := en.1) (ci := 5) (v := .ref q15) (ty := .array .int) (C := RX5) (T := TX5) (N := 16) hx hb hts iw_X5_init_X5 tyX5 tyX5_ok nmX5 hown hE.1 hP hD hS 0 rfl rfl 3 (by decide) (hts (.fieldLink RX5 13 "CreditGameModel" "fixedTo" "[I") (by decide +kernel)) (fun _ h9 => h9) rfl hin rfl (by decide +kernel) rfl rfl (Nat.le_of_ble_eq_true rfl) dX5_init_17 (fun H locs hP hD hS => ?_)
  have hP : va_P en.1 vwCl [(h0, .inr (5, [.int 0, .int 0, .ref q7, .ref q15, .int 0, .null, .null, .null, .int 0, .null, .null, .null, .null, .null, .null, .null])), z_i en q7 7, z_i en q15 7] H := hP
  have hD : va_D A [(h0, .inr (5, [.int 0, .int 0, .ref q7, .ref q15, .int 0, .null, .null, .null, .int 0, .null, .null, .null, .null, .null, .null, .null])), z_i en q7 7, z_i en q15 7] := hD
  refine lv_aload_n hx hb dX5_init_20 rfl (lv_at hl 0 rfl) ?_
  refine lv_bipush (v := 24) hx hb dX5_init_21 (by decide) ?_
  refine cn_newa (atype := .int) (a0 := (24, .inl (fun _ => 0))) (N' := 24) (ty := .int) hx hb (hts (.arrayClass .int) (by decide +kernel)) rfl hE en.2.1 (ra_i hE) hP hD hS hA (fun _ => rfl) (by decide) (by decide) (by decide) (Nat.le_of_ble_eq_true rfl) (Nat.le_of_ble_eq_true rfl) dX5_init_23 (fun q23 H hP hD hS => ?_)
  have hP : va_P en.1 vwCl [(h0, .inr (5, [.int 0, .int 0, .ref q7, .ref q15, .int 0, .null, .null, .null, .int 0, .null, .null, .null, .null, .null, .null, .null])), z_i en q7 7, z_i en q15 7, z_i en q23 24] H := hP
  have hD : va_D A [(h0, .inr (5, [.int 0, .int 0, .ref q7, .ref q15, .int 0, .null, .null, .null, .int 0, .null, .null, .null, .null, .null, .null, .null])), z_i en q7 7, z_i en q15 7, z_i en q23 24] := hD
  refine va_putF (D := en.1) (ci := 5) (v := .ref q23) (ty := .array .int) (C := RX5) (T := TX5) (N := 16) hx hb hts iw_X5_init_X5 tyX5 tyX5_ok nmX5 hown hE.1 hP hD hS 0 rfl rfl 5 (by decide) (hts (.fieldLink RX5 16 "CreditGameModel" "from" "[I") (by decide +kernel)) (fun _ h9 => h9) rfl hin rfl (by decide +kernel) rfl rfl (Nat.le_of_ble_eq_true rfl) dX5_init_25 (fun H locs hP hD hS => ?_)
  have hP : va_P en.1 vwCl [(h0, .inr (5, [.int 0, .int 0, .ref q7, .ref q15, .int 0, .ref q23, .null, .null, .int 0, .null, .null, .null, .null, .null, .null, .null])), z_i en q7 7, z_i en q15 7, z_i en q23 24] H := hP
  have hD : va_D A [(h0, .inr (5, [.int 0, .int 0, .ref q7, .ref q15, .int 0, .ref q23, .null, .null, .int 0, .null, .null, .null, .null, .null, .null, .null])), z_i en q7 7, z_i en q15 7, z_i en q23 24] := hD
  refine lv_aload_n hx hb dX5_init_28 rfl (lv_at hl 0 rfl) ?_
  refine lv_bipush (v := 24) hx hb dX5_init_29 (by decide) ?_
  refine cn_newa (atype := .int) (a0 := (24, .inl (fun _ => 0))) (N' := 24) (ty := .int) hx hb (hts (.arrayClass .int) (by decide +kernel)) rfl hE en.2.1 (ra_i hE) hP hD hS hA (fun _ => rfl) (by decide) (by decide) (by decide) (Nat.le_of_ble_eq_true rfl) (Nat.le_of_ble_eq_true rfl) dX5_init_31 (fun q31 H hP hD hS => ?_)
  have hP : va_P en.1 vwCl [(h0, .inr (5, [.int 0, .int 0, .ref q7, .ref q15, .int 0, .ref q23, .null, .null, .int 0, .null, .null, .null, .null, .null, .null, .null])), z_i en q7 7, z_i en q15 7, z_i en q23 24, z_i en q31 24] H := hP
  have hD : va_D A [(h0, .inr (5, [.int 0, .int 0, .ref q7, .ref q15, .int 0, .ref q23, .null, .null, .int 0, .null, .null, .null, .null, .null, .null, .null])), z_i en q7 7, z_i en q15 7, z_i en q23 24, z_i en q31 24] := hD
  refine va_putF (D := en.1) (ci := 5) (v := .ref q31) (ty := .array .int) (C := RX5) (T := TX5) (N := 16) hx hb hts iw_X5_init_X5 tyX5 tyX5_ok nmX5 hown hE.1 hP hD hS 0 rfl rfl 6 (by decide) (hts (.fieldLink RX5 19 "CreditGameModel" "to" "[I") (by decide +kernel)) (fun _ h9 => h9) rfl hin rfl (by decide +kernel) rfl rfl (Nat.le_of_ble_eq_true rfl) dX5_init_33 (fun H locs hP hD hS => ?_)
  have hP : va_P en.1 vwCl [(h0, .inr (5, [.int 0, .int 0, .ref q7, .ref q15, .int 0, .ref q23, .ref q31, .null, .int 0, .null, .null, .null, .null, .null, .null, .null])), z_i en q7 7, z_i en q15 7, z_i en q23 24, z_i en q31 24] H := hP
  have hD : va_D A [(h0, .inr (5, [.int 0, .int 0, .ref q7, .ref q15, .int 0, .ref q23, .ref q31, .null, .int 0, .null, .null, .null, .null, .null, .null, .null])), z_i en q7 7, z_i en q15 7, z_i en q23 24, z_i en q31 24] := hD
  refine lv_aload_n hx hb dX5_init_36 rfl (lv_at hl 0 rfl) ?_
  refine lv_bipush (v := 24) hx hb dX5_init_37 (by decide) ?_
  refine cn_newa (atype := .int) (a0 := (24, .inl (fun _ => 0))) (N' := 24) (ty := .int) hx hb (hts (.arrayClass .int) (by decide +kernel)) rfl hE en.2.1 (ra_i hE) hP hD hS hA (fun _ => rfl) (by decide) (by decide) (by decide) (Nat.le_of_ble_eq_true rfl) (Nat.le_of_ble_eq_true rfl) dX5_init_39 (fun q39 H hP hD hS => ?_)
  have hP : va_P en.1 vwCl [(h0, .inr (5, [.int 0, .int 0, .ref q7, .ref q15, .int 0, .ref q23, .ref q31, .null, .int 0, .null, .null, .null, .null, .null, .null, .null])), z_i en q7 7, z_i en q15 7, z_i en q23 24, z_i en q31 24, z_i en q39 24] H := hP
  have hD : va_D A [(h0, .inr (5, [.int 0, .int 0, .ref q7, .ref q15, .int 0, .ref q23, .ref q31, .null, .int 0, .null, .null, .null, .null, .null, .null, .null])), z_i en q7 7, z_i en q15 7, z_i en q23 24, z_i en q31 24, z_i en q39 24] := hD
  refine va_putF (D := en.1) (ci := 5) (v := .ref q39) (ty := .array .int) (C := RX5) (T := TX5) (N := 16) hx hb hts iw_X5_init_X5 tyX5 tyX5_ok nmX5 hown hE.1 hP hD hS 0 rfl rfl 7 (by decide) (hts (.fieldLink RX5 22 "CreditGameModel" "weight" "[I") (by decide +kernel)) (fun _ h9 => h9) rfl hin rfl (by decide +kernel) rfl rfl (Nat.le_of_ble_eq_true rfl) dX5_init_41 (fun H locs hP hD hS => ?_)
  have hP : va_P en.1 vwCl [(h0, .inr (5, [.int 0, .int 0, .ref q7, .ref q15, .int 0, .ref q23, .ref q31, .ref q39, .int 0, .null, .null, .null, .null, .null, .null, .null])), z_i en q7 7, z_i en q15 7, z_i en q23 24, z_i en q31 24, z_i en q39 24] H := hP
  have hD : va_D A [(h0, .inr (5, [.int 0, .int 0, .ref q7, .ref q15, .int 0, .ref q23, .ref q31, .ref q39, .int 0, .null, .null, .null, .null, .null, .null, .null])), z_i en q7 7, z_i en q15 7, z_i en q23 24, z_i en q31 24, z_i en q39 24] := hD
  refine lv_aload_n hx hb dX5_init_44 rfl (lv_at hl 0 rfl) ?_
  refine lv_bipush (v := 7) hx hb dX5_init_45 (by decide) ?_
  refine cn_newa (atype := .int) (a0 := (7, .inl (fun _ => 0))) (N' := 7) (ty := .int) hx hb (hts (.arrayClass .int) (by decide +kernel)) rfl hE en.2.1 (ra_i hE) hP hD hS hA (fun _ => rfl) (by decide) (by decide) (by decide) (Nat.le_of_ble_eq_true rfl) (Nat.le_of_ble_eq_true rfl) dX5_init_47 (fun q47 H hP hD hS => ?_)
  have hP : va_P en.1 vwCl [(h0, .inr (5, [.int 0, .int 0, .ref q7, .ref q15, .int 0, .ref q23, .ref q31, .ref q39, .int 0, .null, .null, .null, .null, .null, .null, .null])), z_i en q7 7, z_i en q15 7, z_i en q23 24, z_i en q31 24, z_i en q39 24, z_i en q47 7] H := hP
  have hD : va_D A [(h0, .inr (5, [.int 0, .int 0, .ref q7, .ref q15, .int 0, .ref q23, .ref q31, .ref q39, .int 0, .null, .null, .null, .null, .null, .null, .null])), z_i en q7 7, z_i en q15 7, z_i en q23 24, z_i en q31 24, z_i en q39 24, z_i en q47 7] := hD
  refine va_putF (D := en.1) (ci := 5) (v := .ref q47) (ty := .array .int) (C := RX5) (T := TX5) (N := 16) hx hb hts iw_X5_init_X5 tyX5 tyX5_ok nmX5 hown hE.1 hP hD hS 0 rfl rfl 9 (by decide) (hts (.fieldLink RX5 25 "CreditGameModel" "above" "[I") (by decide +kernel)) (fun _ h9 => h9) rfl hin rfl (by decide +kernel) rfl rfl (Nat.le_of_ble_eq_true rfl) dX5_init_49 (fun H locs hP hD hS => ?_)
  have hP : va_P en.1 vwCl [(h0, .inr (5, [.int 0, .int 0, .ref q7, .ref q15, .int 0, .ref q23, .ref q31, .ref q39, .int 0, .ref q47, .null, .null, .null, .null, .null, .null])), z_i en q7 7, z_i en q15 7, z_i en q23 24, z_i en q31 24, z_i en q39 24, z_i en q47 7] H := hP
  have hD : va_D A [(h0, .inr (5, [.int 0, .int 0, .ref q7, .ref q15, .int 0, .ref q23, .ref q31, .ref q39, .int 0, .ref q47, .null, .null, .null, .null, .null, .null])), z_i en q7 7, z_i en q15 7, z_i en q23 24, z_i en q31 24, z_i en q39 24, z_i en q47 7] := hD
  refine lv_aload_n hx hb dX5_init_52 rfl (lv_at hl 0 rfl) ?_
  refine lv_bipush (v := 7) hx hb dX5_init_53 (by decide) ?_
  refine cn_newa (atype := .int) (a0 := (7, .inl (fun _ => 0))) (N' := 7) (ty := .int) hx hb (hts (.arrayClass .int) (by decide +kernel)) rfl hE en.2.1 (ra_i hE) hP hD hS hA (fun _ => rfl) (by decide) (by decide) (by decide) (Nat.le_of_ble_eq_true rfl) (Nat.le_of_ble_eq_true rfl) dX5_init_55 (fun q55 H hP hD hS => ?_)
  have hP : va_P en.1 vwCl [(h0, .inr (5, [.int 0, .int 0, .ref q7, .ref q15, .int 0, .ref q23, .ref q31, .ref q39, .int 0, .ref q47, .null, .null, .null, .null, .null, .null])), z_i en q7 7, z_i en q15 7, z_i en q23 24, z_i en q31 24, z_i en q39 24, z_i en q47 7, z_i en q55 7] H := hP
  have hD : va_D A [(h0, .inr (5, [.int 0, .int 0, .ref q7, .ref q15, .int 0, .ref q23, .ref q31, .ref q39, .int 0, .ref q47, .null, .null, .null, .null, .null, .null])), z_i en q7 7, z_i en q15 7, z_i en q23 24, z_i en q31 24, z_i en q39 24, z_i en q47 7, z_i en q55 7] := hD
  refine va_putF (D := en.1) (ci := 5) (v := .ref q55) (ty := .array .int) (C := RX5) (T := TX5) (N := 16) hx hb hts iw_X5_init_X5 tyX5 tyX5_ok nmX5 hown hE.1 hP hD hS 0 rfl rfl 10 (by decide) (hts (.fieldLink RX5 28 "CreditGameModel" "below" "[I") (by decide +kernel)) (fun _ h9 => h9) rfl hin rfl (by decide +kernel) rfl rfl (Nat.le_of_ble_eq_true rfl) dX5_init_57 (fun H locs hP hD hS => ?_)
  have hP : va_P en.1 vwCl [(h0, .inr (5, [.int 0, .int 0, .ref q7, .ref q15, .int 0, .ref q23, .ref q31, .ref q39, .int 0, .ref q47, .ref q55, .null, .null, .null, .null, .null])), z_i en q7 7, z_i en q15 7, z_i en q23 24, z_i en q31 24, z_i en q39 24, z_i en q47 7, z_i en q55 7] H := hP
  have hD : va_D A [(h0, .inr (5, [.int 0, .int 0, .ref q7, .ref q15, .int 0, .ref q23, .ref q31, .ref q39, .int 0, .ref q47, .ref q55, .null, .null, .null, .null, .null])), z_i en q7 7, z_i en q15 7, z_i en q23 24, z_i en q31 24, z_i en q39 24, z_i en q47 7, z_i en q55 7] := hD
  refine lv_aload_n hx hb dX5_init_60 rfl (lv_at hl 0 rfl) ?_
  refine lv_bipush (v := 7) hx hb dX5_init_61 (by decide) ?_
  refine cn_newa (atype := .long) (a0 := (7, .inr (.inl (fun _ => 0)))) (N' := 7) (ty := .long) hx hb (hts (.arrayClass .long) (by decide +kernel)) rfl hE en.2.2.1 (ra_l hE) hP hD hS hA (fun _ => rfl) (by decide) (by decide) (by decide) (Nat.le_of_ble_eq_true rfl) (Nat.le_of_ble_eq_true rfl) dX5_init_63 (fun q63 H hP hD hS => ?_)
  have hP : va_P en.1 vwCl [(h0, .inr (5, [.int 0, .int 0, .ref q7, .ref q15, .int 0, .ref q23, .ref q31, .ref q39, .int 0, .ref q47, .ref q55, .null, .null, .null, .null, .null])), z_i en q7 7, z_i en q15 7, z_i en q23 24, z_i en q31 24, z_i en q39 24, z_i en q47 7, z_i en q55 7, z_l en q63 7] H := hP
  have hD : va_D A [(h0, .inr (5, [.int 0, .int 0, .ref q7, .ref q15, .int 0, .ref q23, .ref q31, .ref q39, .int 0, .ref q47, .ref q55, .null, .null, .null, .null, .null])), z_i en q7 7, z_i en q15 7, z_i en q23 24, z_i en q31 24, z_i en q39 24, z_i en q47 7, z_i en q55 7, z_l en q63 7] := hD
  refine va_putF (D := en.1) (ci := 5) (v := .ref q63) (ty := .array .long) (C := RX5) (T := TX5) (N := 16) hx hb hts iw_X5_init_X5 tyX5 tyX5_ok nmX5 hown hE.1 hP hD hS 0 rfl rfl 11 (by decide) (hts (.fieldLink RX5 31 "CreditGameModel" "now" "[J") (by decide +kernel)) (fun _ h9 => h9) rfl hin rfl (by decide +kernel) rfl rfl (Nat.le_of_ble_eq_true rfl) dX5_init_65 (fun H locs hP hD hS => ?_)
  have hP : va_P en.1 vwCl [(h0, .inr (5, [.int 0, .int 0, .ref q7, .ref q15, .int 0, .ref q23, .ref q31, .ref q39, .int 0, .ref q47, .ref q55, .ref q63, .null, .null, .null, .null])), z_i en q7 7, z_i en q15 7, z_i en q23 24, z_i en q31 24, z_i en q39 24, z_i en q47 7, z_i en q55 7, z_l en q63 7] H := hP
  have hD : va_D A [(h0, .inr (5, [.int 0, .int 0, .ref q7, .ref q15, .int 0, .ref q23, .ref q31, .ref q39, .int 0, .ref q47, .ref q55, .ref q63, .null, .null, .null, .null])), z_i en q7 7, z_i en q15 7, z_i en q23 24, z_i en q31 24, z_i en q39 24, z_i en q47 7, z_i en q55 7, z_l en q63 7] := hD
  refine lv_aload_n hx hb dX5_init_68 rfl (lv_at hl 0 rfl) ?_
  refine lv_bipush (v := 7) hx hb dX5_init_69 (by decide) ?_
  refine cn_newa (atype := .long) (a0 := (7, .inr (.inl (fun _ => 0)))) (N' := 7) (ty := .long) hx hb (hts (.arrayClass .long) (by decide +kernel)) rfl hE en.2.2.1 (ra_l hE) hP hD hS hA (fun _ => rfl) (by decide) (by decide) (by decide) (Nat.le_of_ble_eq_true rfl) (Nat.le_of_ble_eq_true rfl) dX5_init_71 (fun q71 H hP hD hS => ?_)
  have hP : va_P en.1 vwCl [(h0, .inr (5, [.int 0, .int 0, .ref q7, .ref q15, .int 0, .ref q23, .ref q31, .ref q39, .int 0, .ref q47, .ref q55, .ref q63, .null, .null, .null, .null])), z_i en q7 7, z_i en q15 7, z_i en q23 24, z_i en q31 24, z_i en q39 24, z_i en q47 7, z_i en q55 7, z_l en q63 7, z_l en q71 7] H := hP
  have hD : va_D A [(h0, .inr (5, [.int 0, .int 0, .ref q7, .ref q15, .int 0, .ref q23, .ref q31, .ref q39, .int 0, .ref q47, .ref q55, .ref q63, .null, .null, .null, .null])), z_i en q7 7, z_i en q15 7, z_i en q23 24, z_i en q31 24, z_i en q39 24, z_i en q47 7, z_i en q55 7, z_l en q63 7, z_l en q71 7] := hD
  refine va_putF (D := en.1) (ci := 5) (v := .ref q71) (ty := .array .long) (C := RX5) (T := TX5) (N := 16) hx hb hts iw_X5_init_X5 tyX5 tyX5_ok nmX5 hown hE.1 hP hD hS 0 rfl rfl 12 (by decide) (hts (.fieldLink RX5 35 "CreditGameModel" "then" "[J") (by decide +kernel)) (fun _ h9 => h9) rfl hin rfl (by decide +kernel) rfl rfl (Nat.le_of_ble_eq_true rfl) dX5_init_73 (fun H locs hP hD hS => ?_)
  have hP : va_P en.1 vwCl [(h0, .inr (5, [.int 0, .int 0, .ref q7, .ref q15, .int 0, .ref q23, .ref q31, .ref q39, .int 0, .ref q47, .ref q55, .ref q63, .ref q71, .null, .null, .null])), z_i en q7 7, z_i en q15 7, z_i en q23 24, z_i en q31 24, z_i en q39 24, z_i en q47 7, z_i en q55 7, z_l en q63 7, z_l en q71 7] H := hP
  have hD : va_D A [(h0, .inr (5, [.int 0, .int 0, .ref q7, .ref q15, .int 0, .ref q23, .ref q31, .ref q39, .int 0, .ref q47, .ref q55, .ref q63, .ref q71, .null, .null, .null])), z_i en q7 7, z_i en q15 7, z_i en q23 24, z_i en q31 24, z_i en q39 24, z_i en q47 7, z_i en q55 7, z_l en q63 7, z_l en q71 7] := hD
  refine lv_aload_n hx hb dX5_init_76 rfl (lv_at hl 0 rfl) ?_
  refine lv_bipush (v := 7) hx hb dX5_init_77 (by decide) ?_
  refine cn_newa (atype := .int) (a0 := (7, .inl (fun _ => 0))) (N' := 7) (ty := .int) hx hb (hts (.arrayClass .int) (by decide +kernel)) rfl hE en.2.1 (ra_i hE) hP hD hS hA (fun _ => rfl) (by decide) (by decide) (by decide) (Nat.le_of_ble_eq_true rfl) (Nat.le_of_ble_eq_true rfl) dX5_init_79 (fun q79 H hP hD hS => ?_)
  have hP : va_P en.1 vwCl [(h0, .inr (5, [.int 0, .int 0, .ref q7, .ref q15, .int 0, .ref q23, .ref q31, .ref q39, .int 0, .ref q47, .ref q55, .ref q63, .ref q71, .null, .null, .null])), z_i en q7 7, z_i en q15 7, z_i en q23 24, z_i en q31 24, z_i en q39 24, z_i en q47 7, z_i en q55 7, z_l en q63 7, z_l en q71 7, z_i en q79 7] H := hP
  have hD : va_D A [(h0, .inr (5, [.int 0, .int 0, .ref q7, .ref q15, .int 0, .ref q23, .ref q31, .ref q39, .int 0, .ref q47, .ref q55, .ref q63, .ref q71, .null, .null, .null])), z_i en q7 7, z_i en q15 7, z_i en q23 24, z_i en q31 24, z_i en q39 24, z_i en q47 7, z_i en q55 7, z_l en q63 7, z_l en q71 7, z_i en q79 7] := hD
  refine va_putF (D := en.1) (ci := 5) (v := .ref q79) (ty := .array .int) (C := RX5) (T := TX5) (N := 16) hx hb hts iw_X5_init_X5 tyX5 tyX5_ok nmX5 hown hE.1 hP hD hS 0 rfl rfl 13 (by decide) (hts (.fieldLink RX5 38 "CreditGameModel" "needs" "[I") (by decide +kernel)) (fun _ h9 => h9) rfl hin rfl (by decide +kernel) rfl rfl (Nat.le_of_ble_eq_true rfl) dX5_init_81 (fun H locs hP hD hS => ?_)
  have hP : va_P en.1 vwCl [(h0, .inr (5, [.int 0, .int 0, .ref q7, .ref q15, .int 0, .ref q23, .ref q31, .ref q39, .int 0, .ref q47, .ref q55, .ref q63, .ref q71, .ref q79, .null, .null])), z_i en q7 7, z_i en q15 7, z_i en q23 24, z_i en q31 24, z_i en q39 24, z_i en q47 7, z_i en q55 7, z_l en q63 7, z_l en q71 7, z_i en q79 7] H := hP
  have hD : va_D A [(h0, .inr (5, [.int 0, .int 0, .ref q7, .ref q15, .int 0, .ref q23, .ref q31, .ref q39, .int 0, .ref q47, .ref q55, .ref q63, .ref q71, .ref q79, .null, .null])), z_i en q7 7, z_i en q15 7, z_i en q23 24, z_i en q31 24, z_i en q39 24, z_i en q47 7, z_i en q55 7, z_l en q63 7, z_l en q71 7, z_i en q79 7] := hD
  refine lv_aload_n hx hb dX5_init_84 rfl (lv_at hl 0 rfl) ?_
  refine lv_bipush (v := 7) hx hb dX5_init_85 (by decide) ?_
  refine cn_newa (atype := .int) (a0 := (7, .inl (fun _ => 0))) (N' := 7) (ty := .int) hx hb (hts (.arrayClass .int) (by decide +kernel)) rfl hE en.2.1 (ra_i hE) hP hD hS hA (fun _ => rfl) (by decide) (by decide) (by decide) (Nat.le_of_ble_eq_true rfl) (Nat.le_of_ble_eq_true rfl) dX5_init_87 (fun q87 H hP hD hS => ?_)
  have hP : va_P en.1 vwCl [(h0, .inr (5, [.int 0, .int 0, .ref q7, .ref q15, .int 0, .ref q23, .ref q31, .ref q39, .int 0, .ref q47, .ref q55, .ref q63, .ref q71, .ref q79, .null, .null])), z_i en q7 7, z_i en q15 7, z_i en q23 24, z_i en q31 24, z_i en q39 24, z_i en q47 7, z_i en q55 7, z_l en q63 7, z_l en q71 7, z_i en q79 7, z_i en q87 7] H := hP
  have hD : va_D A [(h0, .inr (5, [.int 0, .int 0, .ref q7, .ref q15, .int 0, .ref q23, .ref q31, .ref q39, .int 0, .ref q47, .ref q55, .ref q63, .ref q71, .ref q79, .null, .null])), z_i en q7 7, z_i en q15 7, z_i en q23 24, z_i en q31 24, z_i en q39 24, z_i en q47 7, z_i en q55 7, z_l en q63 7, z_l en q71 7, z_i en q79 7, z_i en q87 7] := hD
  refine va_putF (D := en.1) (ci := 5) (v := .ref q87) (ty := .array .int) (C := RX5) (T := TX5) (N := 16) hx hb hts iw_X5_init_X5 tyX5 tyX5_ok nmX5 hown hE.1 hP hD hS 0 rfl rfl 14 (by decide) (hts (.fieldLink RX5 41 "CreditGameModel" "more" "[I") (by decide +kernel)) (fun _ h9 => h9) rfl hin rfl (by decide +kernel) rfl rfl (Nat.le_of_ble_eq_true rfl) dX5_init_89 (fun H locs hP hD hS => ?_)
  have hP : va_P en.1 vwCl [(h0, .inr (5, [.int 0, .int 0, .ref q7, .ref q15, .int 0, .ref q23, .ref q31, .ref q39, .int 0, .ref q47, .ref q55, .ref q63, .ref q71, .ref q79, .ref q87, .null])), z_i en q7 7, z_i en q15 7, z_i en q23 24, z_i en q31 24, z_i en q39 24, z_i en q47 7, z_i en q55 7, z_l en q63 7, z_l en q71 7, z_i en q79 7, z_i en q87 7] H := hP
  have hD : va_D A [(h0, .inr (5, [.int 0, .int 0, .ref q7, .ref q15, .int 0, .ref q23, .ref q31, .ref q39, .int 0, .ref q47, .ref q55, .ref q63, .ref q71, .ref q79, .ref q87, .null])), z_i en q7 7, z_i en q15 7, z_i en q23 24, z_i en q31 24, z_i en q39 24, z_i en q47 7, z_i en q55 7, z_l en q63 7, z_l en q71 7, z_i en q79 7, z_i en q87 7] := hD
  refine lv_aload_n hx hb dX5_init_92 rfl (lv_at hl 0 rfl) ?_
  refine lv_bipush (v := 7) hx hb dX5_init_93 (by decide) ?_
  refine cn_newa (atype := .int) (a0 := (7, .inl (fun _ => 0))) (N' := 7) (ty := .int) hx hb (hts (.arrayClass .int) (by decide +kernel)) rfl hE en.2.1 (ra_i hE) hP hD hS hA (fun _ => rfl) (by decide) (by decide) (by decide) (Nat.le_of_ble_eq_true rfl) (Nat.le_of_ble_eq_true rfl) dX5_init_95 (fun q95 H hP hD hS => ?_)
  have hP : va_P en.1 vwCl [(h0, .inr (5, [.int 0, .int 0, .ref q7, .ref q15, .int 0, .ref q23, .ref q31, .ref q39, .int 0, .ref q47, .ref q55, .ref q63, .ref q71, .ref q79, .ref q87, .null])), z_i en q7 7, z_i en q15 7, z_i en q23 24, z_i en q31 24, z_i en q39 24, z_i en q47 7, z_i en q55 7, z_l en q63 7, z_l en q71 7, z_i en q79 7, z_i en q87 7, z_i en q95 7] H := hP
  have hD : va_D A [(h0, .inr (5, [.int 0, .int 0, .ref q7, .ref q15, .int 0, .ref q23, .ref q31, .ref q39, .int 0, .ref q47, .ref q55, .ref q63, .ref q71, .ref q79, .ref q87, .null])), z_i en q7 7, z_i en q15 7, z_i en q23 24, z_i en q31 24, z_i en q39 24, z_i en q47 7, z_i en q55 7, z_l en q63 7, z_l en q71 7, z_i en q79 7, z_i en q87 7, z_i en q95 7] := hD
  refine va_putF (D := en.1) (ci := 5) (v := .ref q95) (ty := .array .int) (C := RX5) (T := TX5) (N := 16) hx hb hts iw_X5_init_X5 tyX5 tyX5_ok nmX5 hown hE.1 hP hD hS 0 rfl rfl 15 (by decide) (hts (.fieldLink RX5 44 "CreditGameModel" "chosen" "[I") (by decide +kernel)) (fun _ h9 => h9) rfl hin rfl (by decide +kernel) rfl rfl (Nat.le_of_ble_eq_true rfl) dX5_init_97 (fun H locs hP hD hS => ?_)
  have hP : va_P en.1 vwCl [(h0, .inr (5, [.int 0, .int 0, .ref q7, .ref q15, .int 0, .ref q23, .ref q31, .ref q39, .int 0, .ref q47, .ref q55, .ref q63, .ref q71, .ref q79, .ref q87, .ref q95])), z_i en q7 7, z_i en q15 7, z_i en q23 24, z_i en q31 24, z_i en q39 24, z_i en q47 7, z_i en q55 7, z_l en q63 7, z_l en q71 7, z_i en q79 7, z_i en q87 7, z_i en q95 7] H := hP
  have hD : va_D A [(h0, .inr (5, [.int 0, .int 0, .ref q7, .ref q15, .int 0, .ref q23, .ref q31, .ref q39, .int 0, .ref q47, .ref q55, .ref q63, .ref q71, .ref q79, .ref q87, .ref q95])), z_i en q7 7, z_i en q15 7, z_i en q23 24, z_i en q31 24, z_i en q39 24, z_i en q47 7, z_i en q55 7, z_l en q63 7, z_l en q71 7, z_i en q79 7, z_i en q87 7, z_i en q95 7] := hD
  obtain ⟨ad, had⟩ : ∃ z : Nat → Nat, z = fun k => match k with | 0 => h0 | 1 => q7 | 2 => q15 | 3 => q23 | 4 => q31 | 5 => q39 | 6 => q47 | 7 => q55 | 8 => q63 | 9 => q71 | 10 => q79 | 11 => q87 | 12 => q95 | _ => 0 := ⟨_, rfl⟩
  have hP9 := hP.sub (ws' := mw en ad d0) [0, 1, 2, 3, 4, 5, 6, 7, 8, 9, 10, 11, 12] (by rw [had]; rfl)
  have hD9 := hD.sub (ws' := mw en ad d0) [0, 1, 2, 3, 4, 5, 6, 7, 8, 9, 10, 11, 12] (by decide) (by rw [had]; rfl)
  refine W.widen (k := 12) (n := 135) (Nat.le_of_ble_eq_true rfl) (Nat.le_of_ble_eq_true rfl) ?_
  exact W.vret hx hb hr (fun t ht hW => ⟨⟨ad, rfl, by rw [had]; rfl, by rw [ht]; exact hP9, by first | exact hD9 | (rw [hAe]; exact hD9)⟩, hS.F ht⟩) hS.2.2 dX5_init_100
theorem iw_X4_init_X0 : ∀ w ∈ wsX00, w ∈ wsX4_init := by decide +kernel
theorem iw_X4_init_X1 : ∀ w ∈ wsX10, w ∈ wsX4_init := by decide +kernel
theorem iw_X4_init_X2 : ∀ w ∈ wsX20, w ∈ wsX4_init := by decide +kernel
theorem iw_X4_init_X3 : ∀ w ∈ wsX30, w ∈ wsX4_init := by decide +kernel
theorem iw_X4_init_X4 : ∀ w ∈ wsX40, w ∈ wsX4_init := by decide +kernel
set_option maxHeartbeats 400000 in
set_option maxRecDepth 100000 in
/-- new CreditGame -/
theorem cc_X4 (l : Launch) (en : en_T) (h0 sz : Nat) : Met l yX4_init wsX4_init (rm_ 8 28 369) (cn_Pc en [.ref h0] (fun H => H.size = sz ∧ va_P en.1 vwCl [(h0, .inr (4, [.null, .null, .null, .null, .null]))] H)) (va_Qv (fun ad : Nat → Nat => ad 0 = h0) (fun ad t => va_P en.1 vwCl (xw en ad c0) t.heap ∧ va_D (va_A [(h0, .inr (4, [.null, .null, .null, .null, .null]))] sz) (xw en ad c0)) (va_A [(h0, .inr (4, [.null, .null, .null, .null, .null]))] sz)) 28 369 (va_A [(h0, .inr (4, [.null, .null, .null, .null, .null]))] sz) := by
  refine Met.ofW (cc := cX4_init) (maxL := 1) (ret := none) (by decide) rfl ?_
  intro p e s m args below meth co s₁ B hml hv
  obtain ⟨rfl, ⟨hE, hO⟩, hsz, hP⟩ := hv
  subst hsz
  have hx := B.exec
  have hb := B.bytes
  have hr := B.returns
  have hts := atoms_spec (ws := wsX4_init) B.pre
  have hown : s.vm.findClass RX4 = some m.cls := findClass_of_methodNamed B.named
  have hlocks := B.notSynchronized
  have hin : meth.name = "<init>" := (name_of_methodNamed B.named B.method).1
  have hD : va_D (va_A [(h0, .inr (4, [.null, .null, .null, .null, .null]))] s.heap.size) [(h0, .inr (4, [.null, .null, .null, .null, .null]))] := va_D1
  generalize hAe : va_A [(h0, .inr (4, [.null, .null, .null, .null, .null]))] s.heap.size = A at hD ⊢
  have hA : ∀ q : Nat, s.heap.size ≤ q → A q := fun q h => by rw [← hAe]; exact Or.inr h
  have hS : va_S A s.heap s.heap [] := va_S.rf
  have hl := lv_entry ([.ref h0]) (n := 1) (Nat.le_of_ble_eq_true rfl)
  rw [lg_entry_eq]
  generalize (lg_sl ([.ref h0]) ++ List.replicate (1 - (lg_sl ([.ref h0])).length) Slot.unset).toArray = ls at hl ⊢
  have hl : lv_has ls 1 [(0, .ref h0)] := hl
  refine lv_aload_n hx hb dX4_init_0 rfl (lv_at hl 0 rfl) ?_
  refine W.objInit hx hb hown (hts (.methodLink RX4 1 objectInit) (by decide +kernel)) (hts (.instanceMethod objectInit) (by decide +kernel)) (hts (.code objectInit ⟨#[0xb1]⟩ 1 none) (List.mem_of_getElem? (i := 3) rfl)) rfl (by rw [hml]; exact hl.1) rfl dX4_init_1 (Nat.le_of_ble_eq_true rfl) (Nat.le_of_ble_eq_true rfl) ?_
  refine W.eq (g2 := F0 m 4 ls []) rfl ?_
  refine lv_aload_n hx hb dX4_init_4 rfl (lv_at hl 0 rfl) ?_
  refine va_new (ci := 1) (fs := [.null, .null, .null, .null, .null, .null, .null, .int 0, .int 0]) (C := RX1) (T := TX1) (N := 9) hx hb hts iw_X4_init_X1 tyX1 tyX1_ok hown (hts (.classLink RX4 7 RX1) (by decide +kernel)) (hts (.instantiable RX1 9) (by decide +kernel)) (hts (.initialized RX1) (by decide +kernel)) hE.1 hP hD hS hA rfl (fun j hj => by rcases (show j = 0 ∨ j = 1 ∨ j = 2 ∨ j = 3 ∨ j = 4 ∨ j = 5 ∨ j = 6 ∨ j = 7 ∨ j = 8 by omega) with rfl | rfl | rfl | rfl | rfl | rfl | rfl | rfl | rfl <;> rfl) (Nat.le_of_ble_eq_true rfl) (Nat.le_of_ble_eq_true rfl) dX4_init_5 (fun q5 H hP hD hS => ?_)
  have hP : va_P en.1 vwCl [(h0, .inr (4, [.null, .null, .null, .null, .null])), (q5, .inr (1, [.null, .null, .null, .null, .null, .null, .null, .int 0, .int 0]))] H := hP
  have hD : va_D A [(h0, .inr (4, [.null, .null, .null, .null, .null])), (q5, .inr (1, [.null, .null, .null, .null, .null, .null, .null, .int 0, .int 0]))] := hD
  refine lv_dup hx hb dX4_init_8 rfl ?_
  have hPc := hP.sub (ws' := [(q5, .inr (1, [.null, .null, .null, .null, .null, .null, .null, .int 0, .int 0]))]) [1] rfl
  have hFc := va_free (wc := [(q5, .inr (1, [.null, .null, .null, .null, .null, .null, .null, .int 0, .int 0]))]) hD hS hA [1] rfl
  refine va_callv (va_runIN (As := []) (rest := [.ref q5, .ref h0]) ⟨hx, hb, hml, hown, hts⟩ (cc_X1 l en q5 _) ⟨va_cnB 0 hts gX4_init_X1_init_n9 rfl rfl rfl (hE.2 _ (List.mem_of_getElem? (i := 27) rfl)) (hts (.initialized RX1) (by decide +kernel)) (by decide +kernel) ⟨(Nat.le_of_ble_eq_true rfl), (Nat.le_of_ble_eq_true rfl)⟩, rfl, hts (.instanceMethod yX1_init) (by decide +kernel)⟩ (cn_preS hE hO ⟨rfl, hPc⟩) rfl rfl hl.1 rfl (lv_room (Nat.le_of_ble_eq_true rfl)) dX4_init_9 ⟨(Nat.le_of_ble_eq_true rfl), (Nat.le_of_ble_eq_true rfl)⟩) hS (fun q _ h => hFc q h) hFc (fun u9 t H1 locs ht hvm hu hB hz1 hk1 hS => ?_)
  obtain ⟨hP1, hD1⟩ := hB
  rw [ht] at hP1
  have hP1 : va_P en.1 vwCl [(q5, .inr (1, [.ref (u9 1), .ref (u9 2), .ref (u9 3), .ref (u9 4), .ref (u9 5), .ref (u9 6), .ref (u9 7), .int 0, .int 0])), z_i en (u9 1) 7, z_i en (u9 2) 7, z_i en (u9 3) 7, (u9 4, .inl (en.2.2.2.2, 7, .inr (.inr (.inr (.inr (fun i => if i < 7 then some (u9 (8 + i)) else none)))))), z_i en (u9 5) 24, z_i en (u9 6) 24, z_i en (u9 7) 24, z_i en (u9 8) 24, z_i en (u9 9) 24, z_i en (u9 10) 24, z_i en (u9 11) 24, z_i en (u9 12) 24, z_i en (u9 13) 24, z_i en (u9 14) 24] H1 := by rw [← hu]; exact hP1
  have hD1 : va_D (va_A [(q5, .inr (1, [.null, .null, .null, .null, .null, .null, .null, .int 0, .int 0]))] H.size) [(q5, .inr (1, [.ref (u9 1), .ref (u9 2), .ref (u9 3), .ref (u9 4), .ref (u9 5), .ref (u9 6), .ref (u9 7), .int 0, .int 0])), z_i en (u9 1) 7, z_i en (u9 2) 7, z_i en (u9 3) 7, (u9 4, .inl (en.2.2.2.2, 7, .inr (.inr (.inr (.inr (fun i => if i < 7 then some (u9 (8 + i)) else none)))))), z_i en (u9 5) 24, z_i en (u9 6) 24, z_i en (u9 7) 24, z_i en (u9 8) 24, z_i en (u9 9) 24, z_i en (u9 10) 24, z_i en (u9 11) 24, z_i en (u9 12) 24, z_i en (u9 13) 24, z_i en (u9 14) 24] := by rw [← hu]; rw [← hu] at hD1; exact hD1
  obtain ⟨hP, hD⟩ := va_join (wr := [(h0, .inr (4, [.null, .null, .null, .null, .null]))]) (w1 := [(q5, .inr (1, [.ref (u9 1), .ref (u9 2), .ref (u9 3), .ref (u9 4), .ref (u9 5), .ref (u9 6), .ref (u9 7), .int 0, .int 0])), z_i en (u9 1) 7, z_i en (u9 2) 7, z_i en (u9 3) 7, (u9 4, .inl (en.2.2.2.2, 7, .inr (.inr (.inr (.inr (fun i => if i < 7 then some (u9 (8 + i)) else none)))))), z_i en (u9 5) 24, z_i en (u9 6) 24, z_i en (u9 7) 24, z_i en (u9 8) 24, z_i en (u9 9) 24, z_i en (u9 10) 24, z_i en (u9 11) 24, z_i en (u9 12) 24, z_i en (u9 13) 24, z_i en (u9 14) 24]) hP hD [1] [0] rfl rfl (by decide) (by decide) hk1 hFc hP1 hD1
  generalize H1 = H at hP hS ⊢
  have hP : va_P en.1 vwCl [(h0, .inr (4, [.null, .null, .null, .null, .null])), (q5, .inr (1, [.ref (u9 1), .ref (u9 2), .ref (u9 3), .ref (u9 4), .ref (u9 5), .ref (u9 6), .ref (u9 7), .int 0, .int 0])), z_i en (u9 1) 7, z_i en (u9 2) 7, z_i en (u9 3) 7, (u9 4, .inl (en.2.2.2.2, 7, .inr (.inr (.inr (.inr (fun i => if i < 7 then some (u9 (8 + i)) else none)))))), z_i en (u9 5) 24, z_i en (u9 6) 24, z_i en (u9 7) 24, z_i en (u9 8) 24, z_i en (u9 9) 24, z_i en (u9 10) 24, z_i en (u9 11) 24, z_i en (u9 12) 24, z_i en (u9 13) 24, z_i en (u9 14) 24] H := hP
  have hD : va_D A [(h0, .inr (4, [.null, .null, .null, .null, .null])), (q5, .inr (1, [.ref (u9 1), .ref (u9 2), .ref (u9 3), .ref (u9 4), .ref (u9 5), .ref (u9 6), .ref (u9 7), .int 0, .int 0])), z_i en (u9 1) 7, z_i en (u9 2) 7, z_i en (u9 3) 7, (u9 4, .inl (en.2.2.2.2, 7, .inr (.inr (.inr (.inr (fun i => if i < 7 then some (u9 (8 + i)) else none)))))), z_i en (u9 5) 24, z_i en (u9 6) 24, z_i en (u9 7) 24, z_i en (u9 8) 24, z_i en (u9 9) 24, z_i en (u9 10) 24, z_i en (u9 11) 24, z_i en (u9 12) 24, z_i en (u9 13) 24, z_i en (u9 14) 24] := hD
  refine va_putF (D := en.1) (ci := 4) (v := .ref q5) (ty := .object "CreditGame$Graph") (C := RX4) (T := TX4) (N := 5) hx hb hts iw_X4_init_X4 tyX4 tyX4_ok nmX4 hown hE.1 hP hD hS 0 rfl rfl 0 (by decide) (hts (.fieldLink RX4 10 "CreditGame" "graph" "LCreditGame$Graph;") (by decide +kernel)) (fun _ h9 => h9) rfl hin rfl (by decide +kernel) rfl rfl (Nat.le_of_ble_eq_true rfl) dX4_init_12 (fun H locs hP hD hS => ?_)
  have hP : va_P en.1 vwCl [(h0, .inr (4, [.ref q5, .null, .null, .null, .null])), (q5, .inr (1, [.ref (u9 1), .ref (u9 2), .ref (u9 3), .ref (u9 4), .ref (u9 5), .ref (u9 6), .ref (u9 7), .int 0, .int 0])), z_i en (u9 1) 7, z_i en (u9 2) 7, z_i en (u9 3) 7, (u9 4, .inl (en.2.2.2.2, 7, .inr (.inr (.inr (.inr (fun i => if i < 7 then some (u9 (8 + i)) else none)))))), z_i en (u9 5) 24, z_i en (u9 6) 24, z_i en (u9 7) 24, z_i en (u9 8) 24, z_i en (u9 9) 24, z_i en (u9 10) 24, z_i en (u9 11) 24, z_i en (u9 12) 24, z_i en (u9 13) 24, z_i en (u9 14) 24] H := hP
  have hD : va_D A [(h0, .inr (4, [.ref q5, .null, .null, .null, .null])), (q5, .inr (1, [.ref (u9 1), .ref (u9 2), .ref (u9 3), .ref (u9 4), .ref (u9 5), .ref (u9 6), .ref (u9 7), .int 0, .int 0])), z_i en (u9 1) 7, z_i en (u9 2) 7, z_i en (u9 3) 7, (u9 4, .inl (en.2.2.2.2, 7, .inr (.inr (.inr (.inr (fun i => if i < 7 then some (u9 (8 + i)) else none)))))), z_i en (u9 5) 24, z_i en (u9 6) 24, z_i en (u9 7) 24, z_i en (u9 8) 24, z_i en (u9 9) 24, z_i en (u9 10) 24, z_i en (u9 11) 24, z_i en (u9 12) 24, z_i en (u9 13) 24, z_i en (u9 14) 24] := hD
  refine lv_aload_n hx hb dX4_init_15 rfl (lv_at hl 0 rfl) ?_
  refine va_new (ci := 3) (fs := [.null, .null, .null, .null]) (C := RX3) (T := TX3) (N := 4) hx hb hts iw_X4_init_X3 tyX3 tyX3_ok hown (hts (.classLink RX4 16 RX3) (by decide +kernel)) (hts (.instantiable RX3 4) (by decide +kernel)) (hts (.initialized RX3) (by decide +kernel)) hE.1 hP hD hS hA rfl (fun j hj => by rcases (show j = 0 ∨ j = 1 ∨ j = 2 ∨ j = 3 by omega) with rfl | rfl | rfl | rfl <;> rfl) (Nat.le_of_ble_eq_true rfl) (Nat.le_of_ble_eq_true rfl) dX4_init_16 (fun q16 H hP hD hS => ?_)
  have hP : va_P en.1 vwCl [(h0, .inr (4, [.ref q5, .null, .null, .null, .null])), (q5, .inr (1, [.ref (u9 1), .ref (u9 2), .ref (u9 3), .ref (u9 4), .ref (u9 5), .ref (u9 6), .ref (u9 7), .int 0, .int 0])), z_i en (u9 1) 7, z_i en (u9 2) 7, z_i en (u9 3) 7, (u9 4, .inl (en.2.2.2.2, 7, .inr (.inr (.inr (.inr (fun i => if i < 7 then some (u9 (8 + i)) else none)))))), z_i en (u9 5) 24, z_i en (u9 6) 24, z_i en (u9 7) 24, z_i en (u9 8) 24, z_i en (u9 9) 24, z_i en (u9 10) 24, z_i en (u9 11) 24, z_i en (u9 12) 24, z_i en (u9 13) 24, z_i en (u9 14) 24, (q16, .inr (3, [.null, .null, .null, .null]))] H := hP
  have hD : va_D A [(h0, .inr (4, [.ref q5, .null, .null, .null, .null])), (q5, .inr (1, [.ref (u9 1), .ref (u9 2), .ref (u9 3), .ref (u9 4), .ref (u9 5), .ref (u9 6), .ref (u9 7), .int 0, .int 0])), z_i en (u9 1) 7, z_i en (u9 2) 7, z_i en (u9 3) 7, (u9 4, .inl (en.2.2.2.2, 7, .inr (.inr (.inr (.inr (fun i => if i < 7 then some (u9 (8 + i)) else none)))))), z_i en (u9 5) 24, z_i en (u9 6) 24, z_i en (u9 7) 24, z_i en (u9 8) 24, z_i en (u9 9) 24, z_i en (u9 10) 24, z_i en (u9 11) 24, z_i en (u9 12) 24, z_i en (u9 13) 24, z_i en (u9 14) 24, (q16, .inr (3, [.null, .null, .null, .null]))] := hD
  refine lv_dup hx hb dX4_init_19 rfl ?_
  refine lv_aload_n hx hb dX4_init_20 rfl (lv_at hl 0 rfl) ?_
  refine va_get (D := en.1) (ci := 4) (v := .ref q5) (C := RX4) (T := TX4) (N := 5) hx hb hts iw_X4_init_X4 hown hE.1 hP 0 rfl rfl 0 (by decide) (hts (.fieldLink RX4 10 "CreditGame" "graph" "LCreditGame$Graph;") (by decide +kernel)) (fun _ h9 => h9) rfl dX4_init_21 ?_
  have hPc := hP.sub (ws' := [(q16, .inr (3, [.null, .null, .null, .null]))]) [16] rfl
  have hFc := va_free (wc := [(q16, .inr (3, [.null, .null, .null, .null]))]) hD hS hA [16] rfl
  refine va_callv (va_runIN (As := [.ref q5]) (rest := [.ref q16, .ref h0]) ⟨hx, hb, hml, hown, hts⟩ (cc_X3 l en q16 _ q5) ⟨va_cnB 1 hts gX4_init_X3_init_n18 rfl rfl rfl (hE.2 _ (List.mem_of_getElem? (i := 17) rfl)) (hts (.initialized RX3) (by decide +kernel)) (by decide +kernel) ⟨(Nat.le_of_ble_eq_true rfl), (Nat.le_of_ble_eq_true rfl)⟩, rfl, hts (.instanceMethod yX3_init) (by decide +kernel)⟩ (ct_preS hE ⟨rfl, hPc⟩) rfl rfl hl.1 rfl (lv_room (Nat.le_of_ble_eq_true rfl)) dX4_init_24 ⟨(Nat.le_of_ble_eq_true rfl), (Nat.le_of_ble_eq_true rfl)⟩) hS (fun q _ h => hFc q h) hFc (fun u24 t H1 locs ht hvm hu hB hz1 hk1 hS => ?_)
  obtain ⟨hP1, hD1⟩ := hB
  rw [ht] at hP1
  have hP1 : va_P en.1 vwCl [(q16, .inr (3, [.ref q5, .ref (u24 1), .ref (u24 2), .ref (u24 3)])), ((u24 1), .inr (2, [.ref (u24 4), .ref (u24 5)])), z_b en (u24 2) 7, z_i en (u24 3) 7, z_i en (u24 4) 7, z_i en (u24 5) 7] H1 := by rw [← hu]; exact hP1
  have hD1 : va_D (va_A [(q16, .inr (3, [.null, .null, .null, .null]))] H.size) [(q16, .inr (3, [.ref q5, .ref (u24 1), .ref (u24 2), .ref (u24 3)])), ((u24 1), .inr (2, [.ref (u24 4), .ref (u24 5)])), z_b en (u24 2) 7, z_i en (u24 3) 7, z_i en (u24 4) 7, z_i en (u24 5) 7] := by rw [← hu]; rw [← hu] at hD1; exact hD1
  obtain ⟨hP, hD⟩ := va_join (wr := [(h0, .inr (4, [.ref q5, .null, .null, .null, .null])), (q5, .inr (1, [.ref (u9 1), .ref (u9 2), .ref (u9 3), .ref (u9 4), .ref (u9 5), .ref (u9 6), .ref (u9 7), .int 0, .int 0])), z_i en (u9 1) 7, z_i en (u9 2) 7, z_i en (u9 3) 7, (u9 4, .inl (en.2.2.2.2, 7, .inr (.inr (.inr (.inr (fun i => if i < 7 then some (u9 (8 + i)) else none)))))), z_i en (u9 5) 24, z_i en (u9 6) 24, z_i en (u9 7) 24, z_i en (u9 8) 24, z_i en (u9 9) 24, z_i en (u9 10) 24, z_i en (u9 11) 24, z_i en (u9 12) 24, z_i en (u9 13) 24, z_i en (u9 14) 24]) (w1 := [(q16, .inr (3, [.ref q5, .ref (u24 1), .ref (u24 2), .ref (u24 3)])), ((u24 1), .inr (2, [.ref (u24 4), .ref (u24 5)])), z_b en (u24 2) 7, z_i en (u24 3) 7, z_i en (u24 4) 7, z_i en (u24 5) 7]) hP hD [16] [0, 1, 2, 3, 4, 5, 6, 7, 8, 9, 10, 11, 12, 13, 14, 15] rfl rfl (by decide) (by decide) hk1 hFc hP1 hD1
  generalize H1 = H at hP hS ⊢
  have hP : va_P en.1 vwCl [(h0, .inr (4, [.ref q5, .null, .null, .null, .null])), (q5, .inr (1, [.ref (u9 1), .ref (u9 2), .ref (u9 3), .ref (u9 4), .ref (u9 5), .ref (u9 6), .ref (u9 7), .int 0, .int 0])), z_i en (u9 1) 7, z_i en (u9 2) 7, z_i en (u9 3) 7, (u9 4, .inl (en.2.2.2.2, 7, .inr (.inr (.inr (.inr (fun i => if i < 7 then some (u9 (8 + i)) else none)))))), z_i en (u9 5) 24, z_i en (u9 6) 24, z_i en (u9 7) 24, z_i en (u9 8) 24, z_i en (u9 9) 24, z_i en (u9 10) 24, z_i en (u9 11) 24, z_i en (u9 12) 24, z_i en (u9 13) 24, z_i en (u9 14) 24, (q16, .inr (3, [.ref q5, .ref (u24 1), .ref (u24 2), .ref (u24 3)])), ((u24 1), .inr (2, [.ref (u24 4), .ref (u24 5)])), z_b en (u24 2) 7, z_i en (u24 3) 7, z_i en (u24 4) 7, z_i en (u24 5) 7] H := hP
  have hD : va_D A [(h0, .inr (4, [.ref q5, .null, .null, .null, .null])), (q5, .inr (1, [.ref (u9 1), .ref (u9 2), .ref (u9 3), .ref (u9 4), .ref (u9 5), .ref (u9 6), .ref (u9 7), .int 0, .int 0])), z_i en (u9 1) 7, z_i en (u9 2) 7, z_i en (u9 3) 7, (u9 4, .inl (en.2.2.2.2, 7, .inr (.inr (.inr (.inr (fun i => if i < 7 then some (u9 (8 + i)) else none)))))), z_i en (u9 5) 24, z_i en (u9 6) 24, z_i en (u9 7) 24, z_i en (u9 8) 24, z_i en (u9 9) 24, z_i en (u9 10) 24, z_i en (u9 11) 24, z_i en (u9 12) 24, z_i en (u9 13) 24, z_i en (u9 14) 24, (q16, .inr (3, [.ref q5, .ref (u24 1), .ref (u24 2), .ref (u24 3)])), ((u24 1), .inr (2, [.ref (u24 4), .ref (u24 5)])), z_b en (u24 2) 7, z_i en (u24 3) 7, z_i en (u24 4) 7, z_i en (u24 5) 7] := hD
  refine va_putF (D := en.1) (ci := 4) (v := .ref q16) (ty := .object "CreditGame$Values") (C := RX4) (T := TX4) (N := 5) hx hb hts iw_X4_init_X4 tyX4 tyX4_ok nmX4 hown hE.1 hP hD hS 0 rfl rfl 1 (by decide) (hts (.fieldLink RX4 21 "CreditGame" "values" "LCreditGame$Values;") (by decide +kernel)) (fun _ h9 => h9) rfl hin rfl (by decide +kernel) rfl rfl (Nat.le_of_ble_eq_true rfl) dX4_init_27 (fun H locs hP hD hS => ?_)
  have hP : va_P en.1 vwCl [(h0, .inr (4, [.ref q5, .ref q16, .null, .null, .null])), (q5, .inr (1, [.ref (u9 1), .ref (u9 2), .ref (u9 3), .ref (u9 4), .ref (u9 5), .ref (u9 6), .ref (u9 7), .int 0, .int 0])), z_i en (u9 1) 7, z_i en (u9 2) 7, z_i en (u9 3) 7, (u9 4, .inl (en.2.2.2.2, 7, .inr (.inr (.inr (.inr (fun i => if i < 7 then some (u9 (8 + i)) else none)))))), z_i en (u9 5) 24, z_i en (u9 6) 24, z_i en (u9 7) 24, z_i en (u9 8) 24, z_i en (u9 9) 24, z_i en (u9 10) 24, z_i en (u9 11) 24, z_i en (u9 12) 24, z_i en (u9 13) 24, z_i en (u9 14) 24, (q16, .inr (3, [.ref q5, .ref (u24 1), .ref (u24 2), .ref (u24 3)])), ((u24 1), .inr (2, [.ref (u24 4), .ref (u24 5)])), z_b en (u24 2) 7, z_i en (u24 3) 7, z_i en (u24 4) 7, z_i en (u24 5) 7] H := hP
  have hD : va_D A [(h0, .inr (4, [.ref q5, .ref q16, .null, .null, .null])), (q5, .inr (1, [.ref (u9 1), .ref (u9 2), .ref (u9 3), .ref (u9 4), .ref (u9 5), .ref (u9 6), .ref (u9 7), .int 0, .int 0])), z_i en (u9 1) 7, z_i en (u9 2) 7, z_i en (u9 3) 7, (u9 4, .inl (en.2.2.2.2, 7, .inr (.inr (.inr (.inr (fun i => if i < 7 then some (u9 (8 + i)) else none)))))), z_i en (u9 5) 24, z_i en (u9 6) 24, z_i en (u9 7) 24, z_i en (u9 8) 24, z_i en (u9 9) 24, z_i en (u9 10) 24, z_i en (u9 11) 24, z_i en (u9 12) 24, z_i en (u9 13) 24, z_i en (u9 14) 24, (q16, .inr (3, [.ref q5, .ref (u24 1), .ref (u24 2), .ref (u24 3)])), ((u24 1), .inr (2, [.ref (u24 4), .ref (u24 5)])), z_b en (u24 2) 7, z_i en (u24 3) 7, z_i en (u24 4) 7, z_i en (u24 5) 7] := hD
  refine lv_aload_n hx hb dX4_init_30 rfl (lv_at hl 0 rfl) ?_
  refine va_new (ci := 0) (fs := [.null, .null, .null, .null]) (C := RX0) (T := TX0) (N := 4) hx hb hts iw_X4_init_X0 tyX0 tyX0_ok hown (hts (.classLink RX4 25 RX0) (by decide +kernel)) (hts (.instantiable RX0 4) (by decide +kernel)) (hts (.initialized RX0) (by decide +kernel)) hE.1 hP hD hS hA rfl (fun j hj => by rcases (show j = 0 ∨ j = 1 ∨ j = 2 ∨ j = 3 by omega) with rfl | rfl | rfl | rfl <;> rfl) (Nat.le_of_ble_eq_true rfl) (Nat.le_of_ble_eq_true rfl) dX4_init_31 (fun q31 H hP hD hS => ?_)
  have hP : va_P en.1 vwCl [(h0, .inr (4, [.ref q5, .ref q16, .null, .null, .null])), (q5, .inr (1, [.ref (u9 1), .ref (u9 2), .ref (u9 3), .ref (u9 4), .ref (u9 5), .ref (u9 6), .ref (u9 7), .int 0, .int 0])), z_i en (u9 1) 7, z_i en (u9 2) 7, z_i en (u9 3) 7, (u9 4, .inl (en.2.2.2.2, 7, .inr (.inr (.inr (.inr (fun i => if i < 7 then some (u9 (8 + i)) else none)))))), z_i en (u9 5) 24, z_i en (u9 6) 24, z_i en (u9 7) 24, z_i en (u9 8) 24, z_i en (u9 9) 24, z_i en (u9 10) 24, z_i en (u9 11) 24, z_i en (u9 12) 24, z_i en (u9 13) 24, z_i en (u9 14) 24, (q16, .inr (3, [.ref q5, .ref (u24 1), .ref (u24 2), .ref (u24 3)])), ((u24 1), .inr (2, [.ref (u24 4), .ref (u24 5)])), z_b en (u24 2) 7, z_i en (u24 3) 7, z_i en (u24 4) 7, z_i en (u24 5) 7, (q31, .inr (0, [.null, .null, .null, .null]))] H := hP
  have hD : va_D A [(h0, .inr (4, [.ref q5, .ref q16, .null, .null, .null])), (q5, .inr (1, [.ref (u9 1), .ref (u9 2), .ref (u9 3), .ref (u9 4), .ref (u9 5), .ref (u9 6), .ref (u9 7), .int 0, .int 0])), z_i en (u9 1) 7, z_i en (u9 2) 7, z_i en (u9 3) 7, (u9 4, .inl (en.2.2.2.2, 7, .inr (.inr (.inr (.inr (fun i => if i < 7 then some (u9 (8 + i)) else none)))))), z_i en (u9 5) 24, z_i en (u9 6) 24, z_i en (u9 7) 24, z_i en (u9 8) 24, z_i en (u9 9) 24, z_i en (u9 10) 24, z_i en (u9 11) 24, z_i en (u9 12) 24, z_i en (u9 13) 24, z_i en (u9 14) 24, (q16, .inr (3, [.ref q5, .ref (u24 1), .ref (u24 2), .ref (u24 3)])), ((u24 1), .inr (2, [.ref (u24 4), .ref (u24 5)])), z_b en (u24 2) 7, z_i en (u24 3) 7, z_i en (u24 4) 7, z_i en (u24 5) 7, (q31, .inr (0, [.null, .null, .null, .null]))] := hD
  refine lv_dup hx hb dX4_init_34 rfl ?_
  refine lv_aload_n hx hb dX4_init_35 rfl (lv_at hl 0 rfl) ?_
  refine va_get (D := en.1) (ci := 4) (v := .ref q5) (C := RX4) (T := TX4) (N := 5) hx hb hts iw_X4_init_X4 hown hE.1 hP 0 rfl rfl 0 (by decide) (hts (.fieldLink RX4 10 "CreditGame" "graph" "LCreditGame$Graph;") (by decide +kernel)) (fun _ h9 => h9) rfl dX4_init_36 ?_
  refine lv_aload_n hx hb dX4_init_39 rfl (lv_at hl 0 rfl) ?_
  refine va_get (D := en.1) (ci := 4) (v := .ref q16) (C := RX4) (T := TX4) (N := 5) hx hb hts iw_X4_init_X4 hown hE.1 hP 0 rfl rfl 1 (by decide) (hts (.fieldLink RX4 21 "CreditGame" "values" "LCreditGame$Values;") (by decide +kernel)) (fun _ h9 => h9) rfl dX4_init_40 ?_
  have hPc := hP.sub (ws' := [(q31, .inr (0, [.null, .null, .null, .null]))]) [22] rfl
  have hFc := va_free (wc := [(q31, .inr (0, [.null, .null, .null, .null]))]) hD hS hA [22] rfl
  refine va_callv (va_runIN (As := [.ref q5, .ref q16]) (rest := [.ref q31, .ref h0]) ⟨hx, hb, hml, hown, hts⟩ (cc_X0 l en q31 _ q5 q16) ⟨va_cnB 2 hts gX4_init_X0_init_n27 rfl rfl rfl (hE.2 _ (List.mem_of_getElem? (i := 21) rfl)) (hts (.initialized RX0) (by decide +kernel)) (by decide +kernel) ⟨(Nat.le_of_ble_eq_true rfl), (Nat.le_of_ble_eq_true rfl)⟩, rfl, hts (.instanceMethod yX0_init) (by decide +kernel)⟩ (ct_preS hE ⟨rfl, hPc⟩) rfl rfl hl.1 rfl (lv_room (Nat.le_of_ble_eq_true rfl)) dX4_init_43 ⟨(Nat.le_of_ble_eq_true rfl), (Nat.le_of_ble_eq_true rfl)⟩) hS (fun q _ h => hFc q h) hFc (fun u43 t H1 locs ht hvm hu hB hz1 hk1 hS => ?_)
  obtain ⟨hP1, hD1⟩ := hB
  rw [ht] at hP1
  have hP1 : va_P en.1 vwCl [(q31, .inr (0, [.ref q5, .ref q16, .ref (u43 1), .ref (u43 2)])), z_i en (u43 1) 7, z_i en (u43 2) 24] H1 := by rw [← hu]; exact hP1
  have hD1 : va_D (va_A [(q31, .inr (0, [.null, .null, .null, .null]))] H.size) [(q31, .inr (0, [.ref q5, .ref q16, .ref (u43 1), .ref (u43 2)])), z_i en (u43 1) 7, z_i en (u43 2) 24] := by rw [← hu]; rw [← hu] at hD1; exact hD1
  obtain ⟨hP, hD⟩ := va_join (wr := [(h0, .inr (4, [.ref q5, .ref q16, .null, .null, .null])), (q5, .inr (1, [.ref (u9 1), .ref (u9 2), .ref (u9 3), .ref (u9 4), .ref (u9 5), .ref (u9 6), .ref (u9 7), .int 0, .int 0])), z_i en (u9 1) 7, z_i en (u9 2) 7, z_i en (u9 3) 7, (u9 4, .inl (en.2.2.2.2, 7, .inr (.inr (.inr (.inr (fun i => if i < 7 then some (u9 (8 + i)) else none)))))), z_i en (u9 5) 24, z_i en (u9 6) 24, z_i en (u9 7) 24, z_i en (u9 8) 24, z_i en (u9 9) 24, z_i en (u9 10) 24, z_i en (u9 11) 24, z_i en (u9 12) 24, z_i en (u9 13) 24, z_i en (u9 14) 24, (q16, .inr (3, [.ref q5, .ref (u24 1), .ref (u24 2), .ref (u24 3)])), ((u24 1), .inr (2, [.ref (u24 4), .ref (u24 5)])), z_b en (u24 2) 7, z_i en (u24 3) 7, z_i en (u24 4) 7, z_i en (u24 5) 7]) (w1 := [(q31, .inr (0, [.ref q5, .ref q16, .ref (u43 1), .ref (u43 2)])), z_i en (u43 1) 7, z_i en (u43 2) 24]) hP hD [22] [0, 1, 2, 3, 4, 5, 6, 7, 8, 9, 10, 11, 12, 13, 14, 15, 16, 17, 18, 19, 20, 21] rfl rfl (by decide) (by decide) hk1 hFc hP1 hD1
  generalize H1 = H at hP hS ⊢
  have hP : va_P en.1 vwCl [(h0, .inr (4, [.ref q5, .ref q16, .null, .null, .null])), (q5, .inr (1, [.ref (u9 1), .ref (u9 2), .ref (u9 3), .ref (u9 4), .ref (u9 5), .ref (u9 6), .ref (u9 7), .int 0, .int 0])), z_i en (u9 1) 7, z_i en (u9 2) 7, z_i en (u9 3) 7, (u9 4, .inl (en.2.2.2.2, 7, .inr (.inr (.inr (.inr (fun i => if i < 7 then some (u9 (8 + i)) else none)))))), z_i en (u9 5) 24, z_i en (u9 6) 24, z_i en (u9 7) 24, z_i en (u9 8) 24, z_i en (u9 9) 24, z_i en (u9 10) 24, z_i en (u9 11) 24, z_i en (u9 12) 24, z_i en (u9 13) 24, z_i en (u9 14) 24, (q16, .inr (3, [.ref q5, .ref (u24 1), .ref (u24 2), .ref (u24 3)])), ((u24 1), .inr (2, [.ref (u24 4), .ref (u24 5)])), z_b en (u24 2) 7, z_i en (u24 3) 7, z_i en (u24 4) 7, z_i en (u24 5) 7, (q31, .inr (0, [.ref q5, .ref q16, .ref (u43 1), .ref (u43 2)])), z_i en (u43 1) 7, z_i en (u43 2) 24] H := hP
  have hD : va_D A [(h0, .inr (4, [.ref q5, .ref q16, .null, .null, .null])), (q5, .inr (1, [.ref (u9 1), .ref (u9 2), .ref (u9 3), .ref (u9 4), .ref (u9 5), .ref (u9 6), .ref (u9 7), .int 0, .int 0])), z_i en (u9 1) 7, z_i en (u9 2) 7, z_i en (u9 3) 7, (u9 4, .inl (en.2.2.2.2, 7, .inr (.inr (.inr (.inr (fun i => if i < 7 then some (u9 (8 + i)) else none)))))), z_i en (u9 5) 24, z_i en (u9 6) 24, z_i en (u9 7) 24, z_i en (u9 8) 24, z_i en (u9 9) 24, z_i en (u9 10) 24, z_i en (u9 11) 24, z_i en (u9 12) 24, z_i en (u9 13) 24, z_i en (u9 14) 24, (q16, .inr (3, [.ref q5, .ref (u24 1), .ref (u24 2), .ref (u24 3)])), ((u24 1), .inr (2, [.ref (u24 4), .ref (u24 5)])), z_b en (u24 2) 7, z_i en (u24 3) 7, z_i en (u24 4) 7, z_i en (u24 5) 7, (q31, .inr (0, [.ref q5, .ref q16, .ref (u43 1), .ref (u43 2)])), z_i en (u43 1) 7, z_i en (u43 2) 24] := hD
  refine va_putF (D := en.1) (ci := 4) (v := .ref q31) (ty := .object "CreditGame$Credits") (C := RX4) (T := TX4) (N := 5) hx hb hts iw_X4_init_X4 tyX4 tyX4_ok nmX4 hown hE.1 hP hD hS 0 rfl rfl 2 (by decide) (hts (.fieldLink RX4 30 "CreditGame" "credits" "LCreditGame$Credits;") (by decide +kernel)) (fun _ h9 => h9) rfl hin rfl (by decide +kernel) rfl rfl (Nat.le_of_ble_eq_true rfl) dX4_init_46 (fun H locs hP hD hS => ?_)
  have hP : va_P en.1 vwCl [(h0, .inr (4, [.ref q5, .ref q16, .ref q31, .null, .null])), (q5, .inr (1, [.ref (u9 1), .ref (u9 2), .ref (u9 3), .ref (u9 4), .ref (u9 5), .ref (u9 6), .ref (u9 7), .int 0, .int 0])), z_i en (u9 1) 7, z_i en (u9 2) 7, z_i en (u9 3) 7, (u9 4, .inl (en.2.2.2.2, 7, .inr (.inr (.inr (.inr (fun i => if i < 7 then some (u9 (8 + i)) else none)))))), z_i en (u9 5) 24, z_i en (u9 6) 24, z_i en (u9 7) 24, z_i en (u9 8) 24, z_i en (u9 9) 24, z_i en (u9 10) 24, z_i en (u9 11) 24, z_i en (u9 12) 24, z_i en (u9 13) 24, z_i en (u9 14) 24, (q16, .inr (3, [.ref q5, .ref (u24 1), .ref (u24 2), .ref (u24 3)])), ((u24 1), .inr (2, [.ref (u24 4), .ref (u24 5)])), z_b en (u24 2) 7, z_i en (u24 3) 7, z_i en (u24 4) 7, z_i en (u24 5) 7, (q31, .inr (0, [.ref q5, .ref q16, .ref (u43 1), .ref (u43 2)])), z_i en (u43 1) 7, z_i en (u43 2) 24] H := hP
  have hD : va_D A [(h0, .inr (4, [.ref q5, .ref q16, .ref q31, .null, .null])), (q5, .inr (1, [.ref (u9 1), .ref (u9 2), .ref (u9 3), .ref (u9 4), .ref (u9 5), .ref (u9 6), .ref (u9 7), .int 0, .int 0])), z_i en (u9 1) 7, z_i en (u9 2) 7, z_i en (u9 3) 7, (u9 4, .inl (en.2.2.2.2, 7, .inr (.inr (.inr (.inr (fun i => if i < 7 then some (u9 (8 + i)) else none)))))), z_i en (u9 5) 24, z_i en (u9 6) 24, z_i en (u9 7) 24, z_i en (u9 8) 24, z_i en (u9 9) 24, z_i en (u9 10) 24, z_i en (u9 11) 24, z_i en (u9 12) 24, z_i en (u9 13) 24, z_i en (u9 14) 24, (q16, .inr (3, [.ref q5, .ref (u24 1), .ref (u24 2), .ref (u24 3)])), ((u24 1), .inr (2, [.ref (u24 4), .ref (u24 5)])), z_b en (u24 2) 7, z_i en (u24 3) 7, z_i en (u24 4) 7, z_i en (u24 5) 7, (q31, .inr (0, [.ref q5, .ref q16, .ref (u43 1), .ref (u43 2)])), z_i en (u43 1) 7, z_i en (u43 2) 24] := hD
  refine lv_aload_n hx hb dX4_init_49 rfl (lv_at hl 0 rfl) ?_
  refine va_new (ci := 2) (fs := [.null, .null]) (C := RX2) (T := TX2) (N := 2) hx hb hts iw_X4_init_X2 tyX2 tyX2_ok hown (hts (.classLink RX4 34 RX2) (by decide +kernel)) (hts (.instantiable RX2 2) (by decide +kernel)) (hts (.initialized RX2) (by decide +kernel)) hE.1 hP hD hS hA rfl (fun j hj => by rcases (show j = 0 ∨ j = 1 by omega) with rfl | rfl <;> rfl) (Nat.le_of_ble_eq_true rfl) (Nat.le_of_ble_eq_true rfl) dX4_init_50 (fun q50 H hP hD hS => ?_)
  have hP : va_P en.1 vwCl [(h0, .inr (4, [.ref q5, .ref q16, .ref q31, .null, .null])), (q5, .inr (1, [.ref (u9 1), .ref (u9 2), .ref (u9 3), .ref (u9 4), .ref (u9 5), .ref (u9 6), .ref (u9 7), .int 0, .int 0])), z_i en (u9 1) 7, z_i en (u9 2) 7, z_i en (u9 3) 7, (u9 4, .inl (en.2.2.2.2, 7, .inr (.inr (.inr (.inr (fun i => if i < 7 then some (u9 (8 + i)) else none)))))), z_i en (u9 5) 24, z_i en (u9 6) 24, z_i en (u9 7) 24, z_i en (u9 8) 24, z_i en (u9 9) 24, z_i en (u9 10) 24, z_i en (u9 11) 24, z_i en (u9 12) 24, z_i en (u9 13) 24, z_i en (u9 14) 24, (q16, .inr (3, [.ref q5, .ref (u24 1), .ref (u24 2), .ref (u24 3)])), ((u24 1), .inr (2, [.ref (u24 4), .ref (u24 5)])), z_b en (u24 2) 7, z_i en (u24 3) 7, z_i en (u24 4) 7, z_i en (u24 5) 7, (q31, .inr (0, [.ref q5, .ref q16, .ref (u43 1), .ref (u43 2)])), z_i en (u43 1) 7, z_i en (u43 2) 24, (q50, .inr (2, [.null, .null]))] H := hP
  have hD : va_D A [(h0, .inr (4, [.ref q5, .ref q16, .ref q31, .null, .null])), (q5, .inr (1, [.ref (u9 1), .ref (u9 2), .ref (u9 3), .ref (u9 4), .ref (u9 5), .ref (u9 6), .ref (u9 7), .int 0, .int 0])), z_i en (u9 1) 7, z_i en (u9 2) 7, z_i en (u9 3) 7, (u9 4, .inl (en.2.2.2.2, 7, .inr (.inr (.inr (.inr (fun i => if i < 7 then some (u9 (8 + i)) else none)))))), z_i en (u9 5) 24, z_i en (u9 6) 24, z_i en (u9 7) 24, z_i en (u9 8) 24, z_i en (u9 9) 24, z_i en (u9 10) 24, z_i en (u9 11) 24, z_i en (u9 12) 24, z_i en (u9 13) 24, z_i en (u9 14) 24, (q16, .inr (3, [.ref q5, .ref (u24 1), .ref (u24 2), .ref (u24 3)])), ((u24 1), .inr (2, [.ref (u24 4), .ref (u24 5)])), z_b en (u24 2) 7, z_i en (u24 3) 7, z_i en (u24 4) 7, z_i en (u24 5) 7, (q31, .inr (0, [.ref q5, .ref q16, .ref (u43 1), .ref (u43 2)])), z_i en (u43 1) 7, z_i en (u43 2) 24, (q50, .inr (2, [.null, .null]))] := hD
  refine lv_dup hx hb dX4_init_53 rfl ?_
  have hPc := hP.sub (ws' := [(q50, .inr (2, [.null, .null]))]) [25] rfl
  have hFc := va_free (wc := [(q50, .inr (2, [.null, .null]))]) hD hS hA [25] rfl
  refine va_callv (va_runIN (As := []) (rest := [.ref q50, .ref h0]) ⟨hx, hb, hml, hown, hts⟩ (cc_X2 l en q50 _) ⟨va_cnB 0 hts gX4_init_X2_init_n36 rfl rfl rfl (hE.2 _ (List.mem_of_getElem? (i := 22) rfl)) (hts (.initialized RX2) (by decide +kernel)) (by decide +kernel) ⟨(Nat.le_of_ble_eq_true rfl), (Nat.le_of_ble_eq_true rfl)⟩, rfl, hts (.instanceMethod yX2_init) (by decide +kernel)⟩ (ct_preS hE ⟨rfl, hPc⟩) rfl rfl hl.1 rfl (lv_room (Nat.le_of_ble_eq_true rfl)) dX4_init_54 ⟨(Nat.le_of_ble_eq_true rfl), (Nat.le_of_ble_eq_true rfl)⟩) hS (fun q _ h => hFc q h) hFc (fun u54 t H1 locs ht hvm hu hB hz1 hk1 hS => ?_)
  obtain ⟨hP1, hD1⟩ := hB
  rw [ht] at hP1
  have hP1 : va_P en.1 vwCl [(q50, .inr (2, [.ref (u54 1), .ref (u54 2)])), z_i en (u54 1) 7, z_i en (u54 2) 7] H1 := by rw [← hu]; exact hP1
  have hD1 : va_D (va_A [(q50, .inr (2, [.null, .null]))] H.size) [(q50, .inr (2, [.ref (u54 1), .ref (u54 2)])), z_i en (u54 1) 7, z_i en (u54 2) 7] := by rw [← hu]; rw [← hu] at hD1; exact hD1
  obtain ⟨hP, hD⟩ := va_join (wr := [(h0, .inr (4, [.ref q5, .ref q16, .ref q31, .null, .null])), (q5, .inr (1, [.ref (u9 1), .ref (u9 2), .ref (u9 3), .ref (u9 4), .ref (u9 5), .ref (u9 6), .ref (u9 7), .int 0, .int 0])), z_i en (u9 1) 7, z_i en (u9 2) 7, z_i en (u9 3) 7, (u9 4, .inl (en.2.2.2.2, 7, .inr (.inr (.inr (.inr (fun i => if i < 7 then some (u9 (8 + i)) else none)))))), z_i en (u9 5) 24, z_i en (u9 6) 24, z_i en (u9 7) 24, z_i en (u9 8) 24, z_i en (u9 9) 24, z_i en (u9 10) 24, z_i en (u9 11) 24, z_i en (u9 12) 24, z_i en (u9 13) 24, z_i en (u9 14) 24, (q16, .inr (3, [.ref q5, .ref (u24 1), .ref (u24 2), .ref (u24 3)])), ((u24 1), .inr (2, [.ref (u24 4), .ref (u24 5)])), z_b en (u24 2) 7, z_i en (u24 3) 7, z_i en (u24 4) 7, z_i en (u24 5) 7, (q31, .inr (0, [.ref q5, .ref q16, .ref (u43 1), .ref (u43 2)])), z_i en (u43 1) 7, z_i en (u43 2) 24]) (w1 := [(q50, .inr (2, [.ref (u54 1), .ref (u54 2)])), z_i en (u54 1) 7, z_i en (u54 2) 7]) hP hD [25] [0, 1, 2, 3, 4, 5, 6, 7, 8, 9, 10, 11, 12, 13, 14, 15, 16, 17, 18, 19, 20, 21, 22, 23, 24] rfl rfl (by decide) (by decide) hk1 hFc hP1 hD1
  generalize H1 = H at hP hS ⊢
  have hP : va_P en.1 vwCl [(h0, .inr (4, [.ref q5, .ref q16, .ref q31, .null, .null])), (q5, .inr (1, [.ref (u9 1), .ref (u9 2), .ref (u9 3), .ref (u9 4), .ref (u9 5), .ref (u9 6), .ref (u9 7), .int 0, .int 0])), z_i en (u9 1) 7, z_i en (u9 2) 7, z_i en (u9 3) 7, (u9 4, .inl (en.2.2.2.2, 7, .inr (.inr (.inr (.inr (fun i => if i < 7 then some (u9 (8 + i)) else none)))))), z_i en (u9 5) 24, z_i en (u9 6) 24, z_i en (u9 7) 24, z_i en (u9 8) 24, z_i en (u9 9) 24, z_i en (u9 10) 24, z_i en (u9 11) 24, z_i en (u9 12) 24, z_i en (u9 13) 24, z_i en (u9 14) 24, (q16, .inr (3, [.ref q5, .ref (u24 1), .ref (u24 2), .ref (u24 3)])), ((u24 1), .inr (2, [.ref (u24 4), .ref (u24 5)])), z_b en (u24 2) 7, z_i en (u24 3) 7, z_i en (u24 4) 7, z_i en (u24 5) 7, (q31, .inr (0, [.ref q5, .ref q16, .ref (u43 1), .ref (u43 2)])), z_i en (u43 1) 7, z_i en (u43 2) 24, (q50, .inr (2, [.ref (u54 1), .ref (u54 2)])), z_i en (u54 1) 7, z_i en (u54 2) 7] H := hP
  have hD : va_D A [(h0, .inr (4, [.ref q5, .ref q16, .ref q31, .null, .null])), (q5, .inr (1, [.ref (u9 1), .ref (u9 2), .ref (u9 3), .ref (u9 4), .ref (u9 5), .ref (u9 6), .ref (u9 7), .int 0, .int 0])), z_i en (u9 1) 7, z_i en (u9 2) 7, z_i en (u9 3) 7, (u9 4, .inl (en.2.2.2.2, 7, .inr (.inr (.inr (.inr (fun i => if i < 7 then some (u9 (8 + i)) else none)))))), z_i en (u9 5) 24, z_i en (u9 6) 24, z_i en (u9 7) 24, z_i en (u9 8) 24, z_i en (u9 9) 24, z_i en (u9 10) 24, z_i en (u9 11) 24, z_i en (u9 12) 24, z_i en (u9 13) 24, z_i en (u9 14) 24, (q16, .inr (3, [.ref q5, .ref (u24 1), .ref (u24 2), .ref (u24 3)])), ((u24 1), .inr (2, [.ref (u24 4), .ref (u24 5)])), z_b en (u24 2) 7, z_i en (u24 3) 7, z_i en (u24 4) 7, z_i en (u24 5) 7, (q31, .inr (0, [.ref q5, .ref q16, .ref (u43 1), .ref (u43 2)])), z_i en (u43 1) 7, z_i en (u43 2) 24, (q50, .inr (2, [.ref (u54 1), .ref (u54 2)])), z_i en (u54 1) 7, z_i en (u54 2) 7] := hD
  refine va_putF (D := en.1) (ci := 4) (v := .ref q50) (ty := .object "CreditGame$Path") (C := RX4) (T := TX4) (N := 5) hx hb hts iw_X4_init_X4 tyX4 tyX4_ok nmX4 hown hE.1 hP hD hS 0 rfl rfl 3 (by decide) (hts (.fieldLink RX4 37 "CreditGame" "walked" "LCreditGame$Path;") (by decide +kernel)) (fun _ h9 => h9) rfl hin rfl (by decide +kernel) rfl rfl (Nat.le_of_ble_eq_true rfl) dX4_init_57 (fun H locs hP hD hS => ?_)
  have hP : va_P en.1 vwCl [(h0, .inr (4, [.ref q5, .ref q16, .ref q31, .ref q50, .null])), (q5, .inr (1, [.ref (u9 1), .ref (u9 2), .ref (u9 3), .ref (u9 4), .ref (u9 5), .ref (u9 6), .ref (u9 7), .int 0, .int 0])), z_i en (u9 1) 7, z_i en (u9 2) 7, z_i en (u9 3) 7, (u9 4, .inl (en.2.2.2.2, 7, .inr (.inr (.inr (.inr (fun i => if i < 7 then some (u9 (8 + i)) else none)))))), z_i en (u9 5) 24, z_i en (u9 6) 24, z_i en (u9 7) 24, z_i en (u9 8) 24, z_i en (u9 9) 24, z_i en (u9 10) 24, z_i en (u9 11) 24, z_i en (u9 12) 24, z_i en (u9 13) 24, z_i en (u9 14) 24, (q16, .inr (3, [.ref q5, .ref (u24 1), .ref (u24 2), .ref (u24 3)])), ((u24 1), .inr (2, [.ref (u24 4), .ref (u24 5)])), z_b en (u24 2) 7, z_i en (u24 3) 7, z_i en (u24 4) 7, z_i en (u24 5) 7, (q31, .inr (0, [.ref q5, .ref q16, .ref (u43 1), .ref (u43 2)])), z_i en (u43 1) 7, z_i en (u43 2) 24, (q50, .inr (2, [.ref (u54 1), .ref (u54 2)])), z_i en (u54 1) 7, z_i en (u54 2) 7] H := hP
  have hD : va_D A [(h0, .inr (4, [.ref q5, .ref q16, .ref q31, .ref q50, .null])), (q5, .inr (1, [.ref (u9 1), .ref (u9 2), .ref (u9 3), .ref (u9 4), .ref (u9 5), .ref (u9 6), .ref (u9 7), .int 0, .int 0])), z_i en (u9 1) 7, z_i en (u9 2) 7, z_i en (u9 3) 7, (u9 4, .inl (en.2.2.2.2, 7, .inr (.inr (.inr (.inr (fun i => if i < 7 then some (u9 (8 + i)) else none)))))), z_i en (u9 5) 24, z_i en (u9 6) 24, z_i en (u9 7) 24, z_i en (u9 8) 24, z_i en (u9 9) 24, z_i en (u9 10) 24, z_i en (u9 11) 24, z_i en (u9 12) 24, z_i en (u9 13) 24, z_i en (u9 14) 24, (q16, .inr (3, [.ref q5, .ref (u24 1), .ref (u24 2), .ref (u24 3)])), ((u24 1), .inr (2, [.ref (u24 4), .ref (u24 5)])), z_b en (u24 2) 7, z_i en (u24 3) 7, z_i en (u24 4) 7, z_i en (u24 5) 7, (q31, .inr (0, [.ref q5, .ref q16, .ref (u43 1), .ref (u43 2)])), z_i en (u43 1) 7, z_i en (u43 2) 24, (q50, .inr (2, [.ref (u54 1), .ref (u54 2)])), z_i en (u54 1) 7, z_i en (u54 2) 7] := hD
  refine lv_aload_n hx hb dX4_init_60 rfl (lv_at hl 0 rfl) ?_
  refine lv_bipush (v := 7) hx hb dX4_init_61 (by decide) ?_
  refine cn_newa (atype := .int) (a0 := (7, .inl (fun _ => 0))) (N' := 7) (ty := .int) hx hb (hts (.arrayClass .int) (by decide +kernel)) rfl hE en.2.1 (ra_i hE) hP hD hS hA (fun _ => rfl) (by decide) (by decide) (by decide) (Nat.le_of_ble_eq_true rfl) (Nat.le_of_ble_eq_true rfl) dX4_init_63 (fun q63 H hP hD hS => ?_)
  have hP : va_P en.1 vwCl [(h0, .inr (4, [.ref q5, .ref q16, .ref q31, .ref q50, .null])), (q5, .inr (1, [.ref (u9 1), .ref (u9 2), .ref (u9 3), .ref (u9 4), .ref (u9 5), .ref (u9 6), .ref (u9 7), .int 0, .int 0])), z_i en (u9 1) 7, z_i en (u9 2) 7, z_i en (u9 3) 7, (u9 4, .inl (en.2.2.2.2, 7, .inr (.inr (.inr (.inr (fun i => if i < 7 then some (u9 (8 + i)) else none)))))), z_i en (u9 5) 24, z_i en (u9 6) 24, z_i en (u9 7) 24, z_i en (u9 8) 24, z_i en (u9 9) 24, z_i en (u9 10) 24, z_i en (u9 11) 24, z_i en (u9 12) 24, z_i en (u9 13) 24, z_i en (u9 14) 24, (q16, .inr (3, [.ref q5, .ref (u24 1), .ref (u24 2), .ref (u24 3)])), ((u24 1), .inr (2, [.ref (u24 4), .ref (u24 5)])), z_b en (u24 2) 7, z_i en (u24 3) 7, z_i en (u24 4) 7, z_i en (u24 5) 7, (q31, .inr (0, [.ref q5, .ref q16, .ref (u43 1), .ref (u43 2)])), z_i en (u43 1) 7, z_i en (u43 2) 24, (q50, .inr (2, [.ref (u54 1), .ref (u54 2)])), z_i en (u54 1) 7, z_i en (u54 2) 7, z_i en q63 7] H := hP
  have hD : va_D A [(h0, .inr (4, [.ref q5, .ref q16, .ref q31, .ref q50, .null])), (q5, .inr (1, [.ref (u9 1), .ref (u9 2), .ref (u9 3), .ref (u9 4), .ref (u9 5), .ref (u9 6), .ref (u9 7), .int 0, .int 0])), z_i en (u9 1) 7, z_i en (u9 2) 7, z_i en (u9 3) 7, (u9 4, .inl (en.2.2.2.2, 7, .inr (.inr (.inr (.inr (fun i => if i < 7 then some (u9 (8 + i)) else none)))))), z_i en (u9 5) 24, z_i en (u9 6) 24, z_i en (u9 7) 24, z_i en (u9 8) 24, z_i en (u9 9) 24, z_i en (u9 10) 24, z_i en (u9 11) 24, z_i en (u9 12) 24, z_i en (u9 13) 24, z_i en (u9 14) 24, (q16, .inr (3, [.ref q5, .ref (u24 1), .ref (u24 2), .ref (u24 3)])), ((u24 1), .inr (2, [.ref (u24 4), .ref (u24 5)])), z_b en (u24 2) 7, z_i en (u24 3) 7, z_i en (u24 4) 7, z_i en (u24 5) 7, (q31, .inr (0, [.ref q5, .ref q16, .ref (u43 1), .ref (u43 2)])), z_i en (u43 1) 7, z_i en (u43 2) 24, (q50, .inr (2, [.ref (u54 1), .ref (u54 2)])), z_i en (u54 1) 7, z_i en (u54 2) 7, z_i en q63 7] := hD
  refine va_putF (D := en.1) (ci := 4) (v := .ref q63) (ty := .array .int) (C := RX4) (T := TX4) (N := 5) hx hb hts iw_X4_init_X4 tyX4 tyX4_ok nmX4 hown hE.1 hP hD hS 0 rfl rfl 4 (by decide) (hts (.fieldLink RX4 41 "CreditGame" "chosen" "[I") (by decide +kernel)) (fun _ h9 => h9) rfl hin rfl (by decide +kernel) rfl rfl (Nat.le_of_ble_eq_true rfl) dX4_init_65 (fun H locs hP hD hS => ?_)
  have hP : va_P en.1 vwCl [(h0, .inr (4, [.ref q5, .ref q16, .ref q31, .ref q50, .ref q63])), (q5, .inr (1, [.ref (u9 1), .ref (u9 2), .ref (u9 3), .ref (u9 4), .ref (u9 5), .ref (u9 6), .ref (u9 7), .int 0, .int 0])), z_i en (u9 1) 7, z_i en (u9 2) 7, z_i en (u9 3) 7, (u9 4, .inl (en.2.2.2.2, 7, .inr (.inr (.inr (.inr (fun i => if i < 7 then some (u9 (8 + i)) else none)))))), z_i en (u9 5) 24, z_i en (u9 6) 24, z_i en (u9 7) 24, z_i en (u9 8) 24, z_i en (u9 9) 24, z_i en (u9 10) 24, z_i en (u9 11) 24, z_i en (u9 12) 24, z_i en (u9 13) 24, z_i en (u9 14) 24, (q16, .inr (3, [.ref q5, .ref (u24 1), .ref (u24 2), .ref (u24 3)])), ((u24 1), .inr (2, [.ref (u24 4), .ref (u24 5)])), z_b en (u24 2) 7, z_i en (u24 3) 7, z_i en (u24 4) 7, z_i en (u24 5) 7, (q31, .inr (0, [.ref q5, .ref q16, .ref (u43 1), .ref (u43 2)])), z_i en (u43 1) 7, z_i en (u43 2) 24, (q50, .inr (2, [.ref (u54 1), .ref (u54 2)])), z_i en (u54 1) 7, z_i en (u54 2) 7, z_i en q63 7] H := hP
  have hD : va_D A [(h0, .inr (4, [.ref q5, .ref q16, .ref q31, .ref q50, .ref q63])), (q5, .inr (1, [.ref (u9 1), .ref (u9 2), .ref (u9 3), .ref (u9 4), .ref (u9 5), .ref (u9 6), .ref (u9 7), .int 0, .int 0])), z_i en (u9 1) 7, z_i en (u9 2) 7, z_i en (u9 3) 7, (u9 4, .inl (en.2.2.2.2, 7, .inr (.inr (.inr (.inr (fun i => if i < 7 then some (u9 (8 + i)) else none)))))), z_i en (u9 5) 24, z_i en (u9 6) 24, z_i en (u9 7) 24, z_i en (u9 8) 24, z_i en (u9 9) 24, z_i en (u9 10) 24, z_i en (u9 11) 24, z_i en (u9 12) 24, z_i en (u9 13) 24, z_i en (u9 14) 24, (q16, .inr (3, [.ref q5, .ref (u24 1), .ref (u24 2), .ref (u24 3)])), ((u24 1), .inr (2, [.ref (u24 4), .ref (u24 5)])), z_b en (u24 2) 7, z_i en (u24 3) 7, z_i en (u24 4) 7, z_i en (u24 5) 7, (q31, .inr (0, [.ref q5, .ref q16, .ref (u43 1), .ref (u43 2)])), z_i en (u43 1) 7, z_i en (u43 2) 24, (q50, .inr (2, [.ref (u54 1), .ref (u54 2)])), z_i en (u54 1) 7, z_i en (u54 2) 7, z_i en q63 7] := hD
  obtain ⟨ad, had⟩ : ∃ z : Nat → Nat, z = fun k => if 22 ≤ k then u9 (k - 14) else match k with | 0 => h0 | 1 => q5 | 2 => q16 | 3 => q31 | 4 => q50 | 5 => (u24 1) | 6 => (u9 1) | 7 => (u9 2) | 8 => (u9 3) | 9 => (u9 5) | 10 => (u9 6) | 11 => (u9 7) | 12 => (u24 2) | 13 => (u24 3) | 14 => (u43 1) | 15 => (u43 2) | 16 => (u54 1) | 17 => (u54 2) | 18 => (u24 4) | 19 => (u24 5) | 20 => q63 | 21 => (u9 4) | _ => 0 := ⟨_, rfl⟩
  have er : (fun i => if i < 7 then some (u9 (8 + i)) else none) = (fun i => if i < 7 then some (ad (22 + i)) else none) := by
    funext i
    have h9 : ad (22 + i) = u9 (8 + i) := by
      rw [had]
      show (if 22 ≤ 22 + i then u9 ((22 + i) - 14) else _) = _
      rw [if_pos (by omega), show 22 + i - 14 = 8 + i by omega]
    rw [h9]
  rw [er] at hP hD
  have hP9 := hP.sub (ws' := xw en ad c0) [0, 1, 16, 22, 25, 17, 2, 3, 4, 6, 7, 8, 18, 19, 23, 24, 26, 27, 20, 21, 28, 5, 9, 10, 11, 12, 13, 14, 15] (by rw [had]; rfl)
  have hD9 := hD.sub (ws' := xw en ad c0) [0, 1, 16, 22, 25, 17, 2, 3, 4, 6, 7, 8, 18, 19, 23, 24, 26, 27, 20, 21, 28, 5, 9, 10, 11, 12, 13, 14, 15] (by decide) (by rw [had]; rfl)
  refine W.widen (k := 28) (n := 369) (Nat.le_of_ble_eq_true rfl) (Nat.le_of_ble_eq_true rfl) ?_
  exact W.vret hx hb hr (fun t ht hW => ⟨⟨ad, rfl, by rw [had]; rfl, by rw [ht]; exact hP9, by first | exact hD9 | (rw [hAe]; exact hD9)⟩, hS.F ht⟩) hS.2.2 dX4_init_68
