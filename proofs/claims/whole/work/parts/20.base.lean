/-! ===== environment, contract forms ===== -/
/-- the words on private members of nest mates -/
def nw_L : List Cond := [.methodLinkNest RX4 100 yX3_findAll "CreditGame", .methodLinkNest RX4 103 yX0_solve "CreditGame", .methodLinkNest RX4 107 yX0_needOf "CreditGame", .methodLinkNest RX4 114 yX3_find "CreditGame", .methodLinkNest RX4 117 yX3_order "CreditGame", .methodLinkNest RX4 120 yX3_bottomOf "CreditGame", .methodLinkNest RX4 123 yX3_topOf "CreditGame", .methodLinkNest RX4 144 yX1_hasVertex "CreditGame", .methodLinkNest RX4 150 yX1_isComplete "CreditGame", .methodLinkNest RX4 156 yX1_ownerOf "CreditGame", .methodLinkNest RX4 159 yX1_waysFrom "CreditGame", .methodLinkNest RX4 162 yX1_wayFrom "CreditGame", .methodLinkNest RX4 165 yX0_allows "CreditGame", .methodLinkNest RX4 168 yX2_clear "CreditGame", .methodLinkNest RX4 171 yX2_has "CreditGame", .methodLinkNest RX4 174 yX2_enter "CreditGame", .methodLinkNest RX4 177 yX1_weightOf "CreditGame", .methodLinkNest RX4 18 yX3_init "CreditGame", .methodLinkNest RX4 180 yX1_targetOf "CreditGame", .methodLinkNest RX4 183 yX2_stepsTo "CreditGame", .methodLinkNest RX4 186 yX2_sumTo "CreditGame", .methodLinkNest RX4 27 yX0_init "CreditGame", .methodLinkNest RX4 36 yX2_init "CreditGame", .methodLinkNest RX4 60 yX3_forget "CreditGame", .methodLinkNest RX4 63 yX1_addVertex "CreditGame", .methodLinkNest RX4 80 yX1_addEdge "CreditGame", .methodLinkNest RX4 84 yX1_isFrom "CreditGame", .methodLinkNest RX4 9 yX1_init "CreditGame", .methodLinkNest RX4 90 yX1_setFixed "CreditGame", .methodLinkNest RX4 94 yX1_fixedOf "CreditGame", .methodLinkNest RX0 26 yX1_weightOf "CreditGame", .methodLinkNest RX0 32 yX3_order "CreditGame", .methodLinkNest RX0 42 yX1_ownerOf "CreditGame", .methodLinkNest RX0 49 yX1_waysFrom "CreditGame", .methodLinkNest RX0 52 yX1_wayFrom "CreditGame", .methodLinkNest RX0 59 yX1_targetOf "CreditGame", .methodLinkNest RX3 11 yX2_init "CreditGame", .methodLinkNest RX3 34 yX1_hasVertex "CreditGame", .methodLinkNest RX3 40 yX2_clear "CreditGame", .methodLinkNest RX3 62 yX2_has "CreditGame", .methodLinkNest RX3 65 yX2_stepsTo "CreditGame", .methodLinkNest RX3 68 yX2_sumTo "CreditGame", .methodLinkNest RX3 74 yX2_enter "CreditGame", .methodLinkNest RX3 78 yX1_ownerOf "CreditGame", .methodLinkNest RX3 87 yX2_leave "CreditGame", .methodLinkNest RX3 90 yX1_waysFrom "CreditGame", .methodLinkNest RX3 93 yX1_wayFrom "CreditGame", .methodLinkNest RX3 96 yX1_targetOf "CreditGame", .methodLinkNest RX3 99 yX1_weightOf "CreditGame", .fieldLinkNest RX4 49 "CreditGame$Graph" "vertexCount" "I" "CreditGame", .fieldLinkNest RX4 75 "CreditGame$Graph" "edgeCount" "I" "CreditGame"]
def nw_is : Cond → Bool
  | .methodLinkNest _ _ _ _ => true
  | .fieldLinkNest _ _ _ _ _ _ => true
  | _ => false
theorem nw_all : ∀ w ∈ nw_L, nw_is w = true := by
  intro w hw
  exact List.all_eq_true.mp (show nw_L.all nw_is = true from rfl) w hw
theorem nw_warm1 {w : Cond} {s U : State} (hi : nw_is w = true) (hW : s.WarmedH U.vm) (h : va_Nw w s) : va_Nw w U := by
  cases w <;> first | exact va_Nw.warmM hW h | exact va_Nw.warmF hW h | (exact Bool.noConfusion hi)
theorem nw_same1 {w : Cond} {s U : State} (hi : nw_is w = true) (hv : s.vm = U.vm) (h : va_Nw w s) : va_Nw w U := by
  cases w <;> first | exact va_Nw.same rfl hv h | (exact Bool.noConfusion hi)
/-- class numbers and places of fields; the array classes of int, long, boolean, int[] -/
abbrev en_T : Type := va_G × ClassId × ClassId × ClassId × ClassId
abbrev en_ty (en : en_T) : List (ClassId × FieldType) := [(en.2.1, .int), (en.2.2.1, .long), (en.2.2.2.1, .boolean), (en.2.2.2.2, .array .int)]
def en_ok (en : en_T) (U : State) : Prop := va_K en.1 vwCl (en_ty en) U ∧ ∀ w ∈ nw_L, va_Nw w U
theorem en_ok.warm {en : en_T} {s U : State} (hW : s.WarmedH U.vm) (h : en_ok en s) : en_ok en U := ⟨va_K.moved hW.alike h.1, fun w hw => nw_warm1 (nw_all w hw) hW (h.2 w hw)⟩
theorem en_ok.calling {en : en_T} {U : State} {g : JFrame} {mk : MethodId} {a : Array Value} (h : en_ok en U) : en_ok en (U.calling g mk a) := ⟨va_K.moved (u := U) (U := U.calling g mk a) (Vm.Alike.refl U.vm) h.1, fun w hw => nw_same1 (s := U) (U := U.calling g mk a) (nw_all w hw) rfl (h.2 w hw)⟩
/-- a method's start -/
def ct_Pc (en : en_T) (av : List Value) (B : Heap → Prop) : Array Value → State → Prop := fun v U => v = av.toArray ∧ en_ok en U ∧ B U.heap
theorem ct_blind {en : en_T} {av : List Value} {B : Heap → Prop} : FrameBlind (ct_Pc en av B) := fun _ _ _ _ q => ⟨q.1, q.2.1.calling, q.2.2⟩
theorem ct_preV {en : en_T} {B : Heap → Prop} {s : State} {H : Heap} {C : String} {b : Addr} {As : List Value} (hE : en_ok en s) (hr : ∃ cell : Cell, H[b]? = some cell ∧ cell.vm.isStatics = false ∧ s.vm.findClass C = some cell.cls) (hB : B H) : PreV s H C b (ct_Pc en (.ref b :: As) B) As := ⟨ct_blind, hr, fun _ hU hW => ⟨rfl, hE.warm hW, by rw [hU]; exact hB⟩⟩
theorem ct_preS {en : en_T} {B : Heap → Prop} {s : State} {H : Heap} {As : List Value} (hE : en_ok en s) (hB : B H) : PreS s H (ct_Pc en As B) As := ⟨ct_blind, fun _ hU hW => ⟨rfl, hE.warm hW, by rw [hU]; exact hB⟩⟩
/-- a method that only reads: its answer -/
def ro_Qi (post : Int32 → Prop) : Array Value → State → Outcome → State → Prop := fun _ st oc t => ∃ r : Int32, oc = .returned (some (.int r)) ∧ post r ∧ t.heap = st.heap
abbrev rm_ (d mc ms : Nat) : Room := { frames := d, cells := mc, slots := ms, locals := 40 * d }
section RO
variable {p : Program} {l : Launch} {e : Env} {R : Room} {s : State} {m : MethodId} {args : Array Value} {below : List Frame} {meth : Method} {c : Code} {H : Heap} {locs : List Loc} {cells slots : Nat} {Q : State → Prop}
variable {pc : Nat} {ls : Array Slot} {rest st0 : List Value} {a : Array Value}
theorem ro_calli {post : Int32 → Prop} (hr : va_Run p l e R s m args below meth c H locs cells slots 0 0 (F0 m pc ls st0) rest (ro_Qi post a) (fun _ => False))
    (kk : ∀ r : Int32, post r → W p l e R s m args below meth c H locs cells slots Q (F0 m (pc + 3) ls (.int r :: rest))) : W p l e R s m args below meth c H locs cells slots Q (F0 m pc ls st0) := by
  intro T hT X
  obtain ⟨v, st₀, t, T', L, h0, X', hL, e1, -, ⟨r, hv, hp, hh⟩, st⟩ := hr T hT X
  cases hv
  obtain ⟨t2, a1, b1⟩ := kk r hp T' (by rw [e1, hh, h0]) (Stand.forget X' (fun q h => (hL q h).elim))
  exact ⟨t2, st t2 a1, b1⟩
end RO
/-- an array of arrays is read -/
theorem my_aldA {p : Program} {l : Launch} {e : Env} {R : Room} {s : State} {m : MethodId} {args : Array Value} {below : List Frame} {meth : Method} {c : Code} {H : Heap} {locs : List Loc} {cells slots : Nat} {Q : State → Prop} {cc : ByteArray} {pc : Nat} {ls : Array Slot} {rest : List Value} {D : va_G} {cl : List vw_C} {a : Nat} {tys : List (ClassId × FieldType)} {ws : va_W} (hexec : p.tables.exec = Jvm.exec) (hb : c.code = cc) (hK : va_K D cl tys s) (hP : va_P D cl ws H) (q0 t0 : Nat) {cA : ClassId} {t : FieldType} {n : Nat} {f : Nat → Option Nat} (ha : ws[q0]? = some (a, .inl (cA, n, .inr (.inr (.inr (.inr f)))))) (ht : tys[t0]? = some (cA, .array t)) {i : Int32} (hin : vp_in i n) (hdg : decode cc pc = .ok (.aaload, 1))
    (kk : W p l e R s m args below meth c H locs cells slots Q (F0 m (pc + 1) ls (va_rf (f i.toNatClampNeg) :: rest))) : W p l e R s m args below meth c H locs cells slots Q (F0 m pc ls (.int i :: .ref a :: rest)) := by
  have hlt : i.toNatClampNeg < n := Nat.not_le.mp fun q => hin (Or.inr q)
  exact W.aald (v := va_rf (f i.toNatClampNeg)) (ty := .array t) hexec hb (hP q0 _ ha) ((hK.2 t0 _ ht).1 n (fun j => va_rf (f j))) rfl (fun q => by cases q) (by show ¬ (i < 0 ∨ (arrV _ _ _).slots.size ≤ _); rw [arrV_size]; exact hin) (by show (arrV _ _ _).slots[_]? = _; rw [arrV_read _ _ hlt]) rfl rfl hdg kk
/-! ===== the class's world: 29 cells at the addresses ad 0 .. ad 28; c k j: what cell k holds at j (c 1 0, c 1 1: the counts) ===== -/
abbrev xw_a (en : en_T) (ad : Nat → Nat) (c : Nat → Nat → Int32) (k L : Nat) : Nat × va_E := (ad k, .inl (en.2.1, L, .inl (c k)))
def xw (en : en_T) (ad : Nat → Nat) (c : Nat → Nat → Int32) : va_W :=
  [(ad 0, .inr (4, [.ref (ad 1), .ref (ad 2), .ref (ad 3), .ref (ad 4), .ref (ad 20)])),
   (ad 1, .inr (1, [.ref (ad 6), .ref (ad 7), .ref (ad 8), .ref (ad 21), .ref (ad 9), .ref (ad 10), .ref (ad 11), .int (c 1 0), .int (c 1 1)])),
   (ad 2, .inr (3, [.ref (ad 1), .ref (ad 5), .ref (ad 12), .ref (ad 13)])),
   (ad 3, .inr (0, [.ref (ad 1), .ref (ad 2), .ref (ad 14), .ref (ad 15)])),
   (ad 4, .inr (2, [.ref (ad 16), .ref (ad 17)])),
   (ad 5, .inr (2, [.ref (ad 18), .ref (ad 19)])),
   xw_a en ad c 6 7, xw_a en ad c 7 7, xw_a en ad c 8 7, xw_a en ad c 9 24, xw_a en ad c 10 24, xw_a en ad c 11 24,
   (ad 12, .inl (en.2.2.2.1, 7, .inl (c 12))),
   xw_a en ad c 13 7, xw_a en ad c 14 7, xw_a en ad c 15 24, xw_a en ad c 16 7, xw_a en ad c 17 7, xw_a en ad c 18 7, xw_a en ad c 19 7, xw_a en ad c 20 7,
   (ad 21, .inl (en.2.2.2.2, 7, .inr (.inr (.inr (.inr (fun i => if i < 7 then some (ad (22 + i)) else none)))))),
   xw_a en ad c 22 24, xw_a en ad c 23 24, xw_a en ad c 24 24, xw_a en ad c 25 24, xw_a en ad c 26 24, xw_a en ad c 27 24, xw_a en ad c 28 24]
/-- which cells are int arrays, and how long -/
def xw_l : Nat → Nat
  | 6 => 7 | 7 => 7 | 8 => 7 | 9 => 24 | 10 => 24 | 11 => 24 | 13 => 7 | 14 => 7 | 15 => 24 | 16 => 7 | 17 => 7 | 18 => 7 | 19 => 7 | 20 => 7
  | 22 => 24 | 23 => 24 | 24 => 24 | 25 => 24 | 26 => 24 | 27 => 24 | 28 => 24
  | _ => 0
theorem xw_at {en : en_T} {ad : Nat → Nat} {c : Nat → Nat → Int32} : ∀ k, 0 < xw_l k → (xw en ad c)[k]? = some (ad k, .inl (en.2.1, xw_l k, .inl (c k)))
  | 6, _ => rfl | 7, _ => rfl | 8, _ => rfl | 9, _ => rfl | 10, _ => rfl | 11, _ => rfl | 13, _ => rfl | 14, _ => rfl | 15, _ => rfl | 16, _ => rfl | 17, _ => rfl | 18, _ => rfl | 19, _ => rfl | 20, _ => rfl
  | 22, _ => rfl | 23, _ => rfl | 24, _ => rfl | 25, _ => rfl | 26, _ => rfl | 27, _ => rfl | 28, _ => rfl
  | 0, h | 1, h | 2, h | 3, h | 4, h | 5, h | 12, h | 21, h => absurd h (by decide)
  | _ + 29, h => absurd h (by simp [xw_l])
theorem xw_set {en : en_T} {ad : Nat → Nat} {c : Nat → Nat → Int32} {g : Nat → Int32} : ∀ k, 0 < xw_l k → (xw en ad c).set k (ad k, .inl (en.2.1, xw_l k, .inl g)) = xw en ad (va_up c k g)
  | 6, _ => rfl | 7, _ => rfl | 8, _ => rfl | 9, _ => rfl | 10, _ => rfl | 11, _ => rfl | 13, _ => rfl | 14, _ => rfl | 15, _ => rfl | 16, _ => rfl | 17, _ => rfl | 18, _ => rfl | 19, _ => rfl | 20, _ => rfl
  | 22, _ => rfl | 23, _ => rfl | 24, _ => rfl | 25, _ => rfl | 26, _ => rfl | 27, _ => rfl | 28, _ => rfl
  | 0, h | 1, h | 2, h | 3, h | 4, h | 5, h | 12, h | 21, h => absurd h (by decide)
  | _ + 29, h => absurd h (by simp [xw_l])
theorem xw_fst {en : en_T} {ad : Nat → Nat} {c : Nat → Nat → Int32} {k : Nat} {q : Nat × va_E} (h : (xw en ad c)[k]? = some q) : k < 29 ∧ q.1 = ad k := by
  have hm : ((xw en ad c).map Prod.fst)[k]? = some q.1 := by rw [List.getElem?_map, h]; rfl
  have he : (xw en ad c).map Prod.fst = (List.range 29).map ad := rfl
  rw [he, List.getElem?_map] at hm
  by_cases hk : k < 29
  · rw [List.getElem?_range hk] at hm
    exact ⟨hk, (Option.some.inj hm).symm⟩
  · rw [List.getElem?_eq_none (by rw [List.length_range]; omega)] at hm
    cases hm
theorem xw_ex {en : en_T} {ad : Nat → Nat} {c : Nat → Nat → Int32} {k : Nat} (hk : k < 29) : ∃ e, (xw en ad c)[k]? = some (ad k, e) := by
  have hl : (xw en ad c).length = 29 := rfl
  have h : (xw en ad c)[k]? = some ((xw en ad c)[k]'(by omega)) := List.getElem?_eq_getElem (by omega)
  refine ⟨((xw en ad c)[k]'(by omega)).2, ?_⟩
  rw [h]
  have := (xw_fst h).2
  rw [← this]
/-- the cells that the class's methods may change -/
def xw_A (ad : Nat → Nat) (sz : Nat) : Nat → Prop := fun q => (∃ k, k < 29 ∧ q = ad k) ∨ sz ≤ q
def xw_I (ad : Nat → Nat) : Prop := ∀ i j, i < 29 → j < 29 → ad i = ad j → i = j
theorem xw_D {en : en_T} {ad : Nat → Nat} {c : Nat → Nat → Int32} {sz : Nat} (hI : xw_I ad) : va_D (xw_A ad sz) (xw en ad c) := by
  refine ⟨fun i j p q hp hq hpq => ?_, fun k q hq => ?_⟩
  · obtain ⟨a1, a2⟩ := xw_fst hp
    obtain ⟨b1, b2⟩ := xw_fst hq
    exact hI i j a1 b1 (by rw [← a2, ← b2, hpq])
  · obtain ⟨a1, a2⟩ := xw_fst hq
    exact Or.inl ⟨k, a1, a2⟩
theorem xw_up {ad : Nat → Nat} {sz sz' : Nat} (h : sz ≤ sz') : ∀ q, xw_A ad sz' q → xw_A ad sz q := fun _ hq => hq.elim Or.inl (fun h2 => Or.inr (Nat.le_trans h h2))
section XR
variable {p : Program} {l : Launch} {e : Env} {R : Room} {s : State} {m : MethodId} {args : Array Value} {below : List Frame} {meth : Method} {co : Code} {H : Heap} {locs : List Loc} {cells slots : Nat} {Q : State → Prop}
variable {cc : ByteArray} {pc : Nat} {ls : Array Slot} {rest st0 : List Value} {en : en_T} {ad : Nat → Nat} {c : Nat → Nat → Int32} {H0 : Heap} {sz : Nat}
theorem xr_ild (hexec : p.tables.exec = Jvm.exec) (hb : co.code = cc) (hE : en_ok en s) (hP : va_P en.1 vwCl (xw en ad c) H) (k : Nat) (hk : 0 < xw_l k) (j : Nat) {i : Int32} (hi : i = nI j) (hj : j < xw_l k) (hdg : decode cc pc = .ok (.iaload, 1))
    (kk : W p l e R s m args below meth co H locs cells slots Q (F0 m (pc + 1) ls (.int (c k j) :: rest))) : W p l e R s m args below meth co H locs cells slots Q (F0 m pc ls (.int i :: .ref (ad k) :: rest)) := by
  have h24 : xw_l k ≤ 24 := by unfold xw_l; split <;> omega
  subst hi
  have hc : (nI j).toNatClampNeg = j := nI_clamp (by omega)
  refine va_iald hexec hb hE.1 hP k 0 (xw_at k hk) rfl (vp_in_nI hj (by omega)) hdg ?_
  rw [hc]
  exact kk
theorem xr_ist (hexec : p.tables.exec = Jvm.exec) (hb : co.code = cc) (hE : en_ok en s) (hP : va_P en.1 vwCl (xw en ad c) H) (hI : xw_I ad) (hS : va_S (xw_A ad sz) H0 H locs) (k : Nat) (hk : 0 < xw_l k) (j : Nat) {i x : Int32} (hi : i = nI j) (hj : j < xw_l k) (hdg : decode cc pc = .ok (.iastore, 1))
    (kk : ∀ (H1 : Heap) (locs1 : List Loc), va_P en.1 vwCl (xw en ad (va_up c k (upd (c k) j x))) H1 → va_S (xw_A ad sz) H0 H1 locs1 → W p l e R s m args below meth co H1 locs1 cells slots Q (F0 m (pc + 1) ls rest)) : W p l e R s m args below meth co H locs cells slots Q (F0 m pc ls (.int x :: .int i :: .ref (ad k) :: rest)) := by
  have h24 : xw_l k ≤ 24 := by unfold xw_l; split <;> omega
  subst hi
  have hc : (nI j).toNatClampNeg = j := nI_clamp (by omega)
  refine va_iast hexec hb hE.1 hP (xw_D hI) hS k 0 (xw_at k hk) rfl (vp_in_nI hj (by omega)) hdg (fun H1 locs1 hP1 _ hS1 => ?_)
  rw [hc, xw_set k hk] at hP1
  exact kk H1 locs1 hP1 hS1
theorem xr_zld (hexec : p.tables.exec = Jvm.exec) (hb : co.code = cc) (hE : en_ok en s) (hP : va_P en.1 vwCl (xw en ad c) H) (j : Nat) {i : Int32} (hi : i = nI j) (hj : j < 7) (hdg : decode cc pc = .ok (.baload, 1))
    (kk : W p l e R s m args below meth co H locs cells slots Q (F0 m (pc + 1) ls (.int (c 12 j) :: rest))) : W p l e R s m args below meth co H locs cells slots Q (F0 m pc ls (.int i :: .ref (ad 12) :: rest)) := by
  subst hi
  have hc : (nI j).toNatClampNeg = j := nI_clamp (by omega)
  refine va_zald (f := c 12) (n := 7) (cA := en.2.2.2.1) hexec hb hE.1 hP 12 2 rfl rfl (vp_in_nI hj (by omega)) hdg ?_
  rw [hc]
  exact kk
theorem xr_zst (hexec : p.tables.exec = Jvm.exec) (hb : co.code = cc) (hE : en_ok en s) (hP : va_P en.1 vwCl (xw en ad c) H) (hI : xw_I ad) (hS : va_S (xw_A ad sz) H0 H locs) (j : Nat) {i x : Int32} (hi : i = nI j) (hj : j < 7) (hdg : decode cc pc = .ok (.bastore, 1))
    (kk : ∀ (H1 : Heap) (locs1 : List Loc), va_P en.1 vwCl (xw en ad (va_up c 12 (upd (c 12) j (vp_nar .boolean x)))) H1 → va_S (xw_A ad sz) H0 H1 locs1 → W p l e R s m args below meth co H1 locs1 cells slots Q (F0 m (pc + 1) ls rest)) : W p l e R s m args below meth co H locs cells slots Q (F0 m pc ls (.int x :: .int i :: .ref (ad 12) :: rest)) := by
  subst hi
  have hc : (nI j).toNatClampNeg = j := nI_clamp (by omega)
  refine va_zast (f := c 12) (n := 7) (cA := en.2.2.2.1) hexec hb hE.1 hP (xw_D hI) hS 12 2 rfl rfl (vp_in_nI hj (by omega)) hdg (fun H1 locs1 hP1 _ hS1 => ?_)
  rw [hc] at hP1
  exact kk H1 locs1 hP1 hS1
theorem xr_ald (hexec : p.tables.exec = Jvm.exec) (hb : co.code = cc) (hE : en_ok en s) (hP : va_P en.1 vwCl (xw en ad c) H) (j : Nat) {i : Int32} (hi : i = nI j) (hj : j < 7) (hdg : decode cc pc = .ok (.aaload, 1))
    (kk : W p l e R s m args below meth co H locs cells slots Q (F0 m (pc + 1) ls (.ref (ad (22 + j)) :: rest))) : W p l e R s m args below meth co H locs cells slots Q (F0 m pc ls (.int i :: .ref (ad 21) :: rest)) := by
  subst hi
  have hc : (nI j).toNatClampNeg = j := nI_clamp (by omega)
  refine my_aldA (t := .int) (n := 7) (cA := en.2.2.2.2) (f := fun i => if i < 7 then some (ad (22 + i)) else none) hexec hb hE.1 hP 21 3 rfl rfl (vp_in_nI hj (by omega)) hdg ?_
  simp only [hc, if_pos hj]
  exact kk
/-- calls of the class's methods that write: an int comes back -/
theorem xr_calli {post : Int32 → (Nat → Nat → Int32) → Prop} {a : Array Value} {mc ms : Nat} (hr : va_Run p l e R s m args below meth co H locs cells slots mc ms (F0 m pc ls st0) rest (va_Qi post (fun c' t => va_P en.1 vwCl (xw en ad c') t.heap) (xw_A ad H.size) a) (xw_A ad H.size)) (hS : va_S (xw_A ad s.heap.size) s.heap H locs)
    (kk : ∀ (r : Int32) (c' : Nat → Nat → Int32) (H1 : Heap) (locs1 : List Loc), post r c' → va_P en.1 vwCl (xw en ad c') H1 → va_S (xw_A ad s.heap.size) s.heap H1 locs1 → W p l e R s m args below meth co H1 locs1 (cells + mc) (slots + ms) Q (F0 m (pc + 3) ls (.int r :: rest))) : W p l e R s m args below meth co H locs cells slots Q (F0 m pc ls st0) := by
  refine va_calli hr hS (fun q _ h => xw_up hS.1 q h) (fun q h => xw_up hS.1 q h) (fun r u t H1 locs1 ht _ hw hB _ _ hS1 => ?_)
  rw [ht] at hB
  exact kk r u H1 locs1 hw hB hS1
theorem xr_callv {post : (Nat → Nat → Int32) → Prop} {a : Array Value} {mc ms : Nat} (hr : va_Run p l e R s m args below meth co H locs cells slots mc ms (F0 m pc ls st0) rest (va_Qv post (fun c' t => va_P en.1 vwCl (xw en ad c') t.heap) (xw_A ad H.size) a) (xw_A ad H.size)) (hS : va_S (xw_A ad s.heap.size) s.heap H locs)
    (kk : ∀ (c' : Nat → Nat → Int32) (H1 : Heap) (locs1 : List Loc), post c' → va_P en.1 vwCl (xw en ad c') H1 → va_S (xw_A ad s.heap.size) s.heap H1 locs1 → W p l e R s m args below meth co H1 locs1 (cells + mc) (slots + ms) Q (F0 m (pc + 3) ls rest)) : W p l e R s m args below meth co H locs cells slots Q (F0 m pc ls st0) := by
  refine va_callv hr hS (fun q _ h => xw_up hS.1 q h) (fun q h => xw_up hS.1 q h) (fun u t H1 locs1 ht _ hw hB _ _ hS1 => ?_)
  rw [ht] at hB
  exact kk u H1 locs1 hw hB hS1
end XR
