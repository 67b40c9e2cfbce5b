/-! ===== methods that throw ===== -/
abbrev eA : String := "java/lang/IllegalArgumentException"
abbrev eS : String := "java/lang/IllegalStateException"
abbrev eNs : List String := ["java/lang/RuntimeException", "java/lang/Exception"]
def tx_S : List (Nat × String) := [(110, "p is not -99 .. 99"), (112, "q is not 1 .. 9"), (136, "what is not 0 .. 3"), (142, "player is not 0 or 1"), (148, "no such vertex"), (154, "the game is not complete"), (55, "there are 7 vertices"), (72, "weight is not -9 .. 9"), (78, "there are 24 edges"), (88, "no such edge from the vertex")]
def tw_L : List Cond := [.castable eA eA, .castable eS eS, .declares (Bundle.initS "java/lang/RuntimeException"), .declares (Bundle.initS "java/lang/Exception"), .declares (Bundle.initS Bundle.tN)]
theorem tw_warm {s U : State} (hW : s.WarmedH U.vm) (h : ∀ w ∈ tw_L, va_Nw w s) : ∀ w ∈ tw_L, va_Nw w U := by
  intro w hw
  have h1 := h w hw
  simp only [tw_L, List.mem_cons, List.not_mem_nil, or_false] at hw
  rcases hw with rfl | rfl | rfl | rfl | rfl
  · exact va_Nw.warmC hW h1
  · exact va_Nw.warmC hW h1
  · exact va_Nw.warmD hW h1
  · exact va_Nw.warmD hW h1
  · exact va_Nw.warmD hW h1
theorem tw_same {s U : State} (hv : s.vm = U.vm) (h : ∀ w ∈ tw_L, va_Nw w s) : ∀ w ∈ tw_L, va_Nw w U := by
  intro w hw
  have h1 := h w hw
  simp only [tw_L, List.mem_cons, List.not_mem_nil, or_false] at hw
  rcases hw with rfl | rfl | rfl | rfl | rfl <;> exact va_Nw.same rfl hv h1
/-- what a throw needs of the machine: words, texts, Throwable's statics, which no cell of ours is -/
def tx (ad : Nat → Nat) (sz : Nat) (U : State) (H : Heap) : Prop :=
  (∀ w ∈ tw_L, va_Nw w U) ∧ (∀ q ∈ tx_S, ∃ sa, vk_R RX4 q.1 q.2 sa U) ∧ vx_Zq Bundle.tN "UNASSIGNED_STACK" Bundle.steD (xw_A ad sz) U H ∧ vx_Zq Bundle.tN "SUPPRESSED_SENTINEL" Bundle.listD (xw_A ad sz) U H
theorem tx.warm {ad : Nat → Nat} {sz : Nat} {s U : State} {H : Heap} (hW : s.WarmedH U.vm) (h : tx ad sz s H) : tx ad sz U H :=
  ⟨tw_warm hW h.1, fun q hq => by obtain ⟨sa, h1⟩ := h.2.1 q hq; exact ⟨sa, h1.warm hW⟩, h.2.2.1.moved hW.alike, h.2.2.2.moved hW.alike⟩
theorem tx.calling {ad : Nat → Nat} {sz : Nat} {U : State} {H : Heap} {g : JFrame} {mk : MethodId} {a : Array Value} (h : tx ad sz U H) : tx ad sz (U.calling g mk a) H :=
  ⟨tw_same (s := U) (U := U.calling g mk a) rfl h.1, fun q hq => by obtain ⟨sa, h1⟩ := h.2.1 q hq; exact ⟨sa, vk_R.same (u := U) (U := U.calling g mk a) rfl h1⟩, vx_Zq.moved (u := U) (U := U.calling g mk a) (Vm.Alike.refl U.vm) h.2.2.1, vx_Zq.moved (u := U) (U := U.calling g mk a) (Vm.Alike.refl U.vm) h.2.2.2⟩
theorem tx.next {ad : Nat → Nat} {s : State} {H : Heap} {locs : List Loc} (hS : va_S (xw_A ad s.heap.size) s.heap H locs) (h : tx ad s.heap.size s s.heap) : tx ad H.size s H :=
  ⟨h.1, h.2.1, (h.2.2.1.kept (fun a h1 h2 => hS.2.1 a h1 h2)).narrow (xw_up hS.1), (h.2.2.2.kept (fun a h1 h2 => hS.2.1 a h1 h2)).narrow (xw_up hS.1)⟩
def tc_Pc (en : en_T) (ad : Nat → Nat) (sz : Nat) (av : List Value) (B : Heap → Prop) : Array Value → State → Prop := fun v U => v = av.toArray ∧ en_ok en U ∧ (U.heap.size = sz ∧ tx ad sz U U.heap) ∧ B U.heap
theorem tc_blind {en : en_T} {ad : Nat → Nat} {sz : Nat} {av : List Value} {B : Heap → Prop} : FrameBlind (tc_Pc en ad sz av B) := fun _ _ _ _ q => ⟨q.1, q.2.1.calling, ⟨q.2.2.1.1, q.2.2.1.2.calling⟩, q.2.2.2⟩
theorem tc_preV {en : en_T} {ad : Nat → Nat} {B : Heap → Prop} {s : State} {H : Heap} {C : String} {b : Addr} {As : List Value} (hE : en_ok en s) (hT : tx ad H.size s H) (hr : ∃ cell : Cell, H[b]? = some cell ∧ cell.vm.isStatics = false ∧ s.vm.findClass C = some cell.cls) (hB : B H) : PreV s H C b (tc_Pc en ad H.size (.ref b :: As) B) As := ⟨tc_blind, hr, fun U hU hW => ⟨rfl, hE.warm hW, ⟨by rw [hU], by rw [hU]; exact hT.warm hW⟩, by rw [hU]; exact hB⟩⟩
theorem tc_preS {en : en_T} {ad : Nat → Nat} {B : Heap → Prop} {s : State} {H : Heap} {As : List Value} (hE : en_ok en s) (hT : tx ad H.size s H) (hB : B H) : PreS s H (tc_Pc en ad H.size As B) As := ⟨tc_blind, fun U hU hW => ⟨rfl, hE.warm hW, ⟨by rw [hU], by rw [hU]; exact hT.warm hW⟩, by rw [hU]; exact hB⟩⟩
/-- a method that returns nothing, and leaves the heap as it is -/
def ro_Qv (post : Prop) : Array Value → State → Outcome → State → Prop := fun _ st oc t => oc = .returned none ∧ post ∧ t.heap = st.heap
/-- what holds where a method of the class has thrown: why, and the world as it was -/
abbrev tx_X (en : en_T) (ad : Nat → Nat) (c : Nat → Nat → Int32) (sz : Nat) (XP : String → Prop) : String → State → State → Prop := vx_X (fun _ : Unit => True) (fun E _ t => XP E ∧ va_P en.1 vwCl (xw en ad c) t.heap) (xw_A ad sz)
section TX
variable {p : Program} {l : Launch} {e : Env} {R : Room} {s : State} {m : MethodId} {args : Array Value} {below : List Frame} {meth : Method} {co : Code} {H : Heap} {locs : List Loc} {cells slots : Nat} {Q : State → Prop}
variable {pc : Nat} {ls : Array Slot} {rest st0 : List Value} {en : en_T} {ad : Nat → Nat} {c : Nat → Nat → Int32}
/-- a check is called: it throws, or nothing is changed -/
theorem tx_callv {post : Prop} {XP : String → Prop} {a : Array Value} {mc ms : Nat} (hr : vx_Run p l e R s m args below meth co H locs cells slots mc ms (F0 m pc ls st0) rest (ro_Qv post a) (tx_X en ad c H.size XP) (xw_A ad H.size)) (hS : va_S (xw_A ad s.heap.size) s.heap H locs)
    (kx : ∀ (E : String) (ce : Cell) (q9 : Addr) (H1 : Heap) (locs1 : List Loc), XP E → va_P en.1 vwCl (xw en ad c) H1 → va_S (xw_A ad s.heap.size) s.heap H1 locs1 → H1[q9]? = some ce → ce.vm = .none → s.vm.findClass E = some ce.cls → vx_W p l e R s m args below meth co H1 locs1 (cells + mc) (slots + ms) Q (F0 m pc ls rest) q9)
    (kk : ∀ (locs1 : List Loc), post → va_S (xw_A ad s.heap.size) s.heap H locs1 → W p l e R s m args below meth co H locs1 (cells + mc) (slots + ms) Q (F0 m (pc + 3) ls rest)) : W p l e R s m args below meth co H locs cells slots Q (F0 m pc ls st0) := by
  intro T hT X
  have hup : ∀ q, xw_A ad H.size q → xw_A ad s.heap.size q := xw_up hS.1
  rcases hr T hT X with ⟨v, st₀, t, T', L, h0, X', hL, e1, -, ⟨hv, hp, hh⟩, st⟩ | ⟨q9, st₀, t, T', L, E, ce, h0, X', hL, e1, -, ⟨u, -, ⟨hx, hB⟩, hF⟩, hce, hcv, hcl, st⟩
  · cases hv
    have eH : T'.heap = H := by rw [e1, hh, h0]
    obtain ⟨t2, a1, b1⟩ := kk (locs ++ L) hp ⟨hS.1, hS.2.1, fun q hq => by
      rcases List.mem_append.mp hq with h | h
      · exact hS.2.2 q h
      · exact hup _ (hL q h)⟩ T' eH X'
    exact ⟨t2, st t2 a1, b1⟩
  · have hz : H.size ≤ T'.heap.size := by rw [e1, ← h0]; exact hF.1
    have hk : ∀ q : Nat, q < H.size → ¬ xw_A ad H.size q → T'.heap[q]? = H[q]? := fun q h1 h2 => by rw [e1, ← h0]; exact hF.2 q (by rw [h0]; exact h1) h2
    obtain ⟨t2, a1, b1⟩ := kx E ce q9 T'.heap (locs ++ L) hx (by rw [e1]; exact hB) ⟨Nat.le_trans hS.1 hz, fun q h1 h2 => (hk q (Nat.lt_of_lt_of_le h1 hS.1) (fun z => h2 (hup q z))).trans (hS.2.1 q h1 h2), fun q hq => by
      rcases List.mem_append.mp hq with h | h
      · exact hS.2.2 q h
      · exact hup _ (hL q h)⟩ (by rw [e1]; exact hce) hcv hcl T' rfl X'
    exact ⟨t2, st.trans a1, b1⟩
theorem tx_thrown {XP : String → Prop} {E : String} (hP : va_P en.1 vwCl (xw en ad c) H) (hS : va_S (xw_A ad s.heap.size) s.heap H locs) (hX : XP E) : ∀ t : State, s.vm.Alike t.vm → H.size ≤ t.heap.size → (∀ q : Nat, q < H.size → t.heap[q]? = H[q]?) → tx_X en ad c s.heap.size XP E s t :=
  fun t _ hz hk => ⟨(), trivial, ⟨hX, hP.kept (fun k q hq => hk q.1 ((hP k q hq).lt))⟩, Nat.le_trans hS.1 hz, fun q h1 h2 => (hk q (Nat.lt_of_lt_of_le h1 hS.1)).trans (hS.2.1 q h1 h2)⟩
theorem tx_on {XP : String → Prop} {E : String} (hP : va_P en.1 vwCl (xw en ad c) H) (hS : va_S (xw_A ad s.heap.size) s.heap H locs) (hX : XP E) : ∀ t : State, t.heap = H → s.vm.Alike t.vm → tx_X en ad c s.heap.size XP E s t :=
  fun t ht _ => ⟨(), trivial, ⟨hX, by rw [ht]; exact hP⟩, hS.F ht⟩
end TX
theorem tw_use {args : Array Value} {s : State} (h : ∀ w ∈ tw_L, va_Nw w s) : ∀ w ∈ tw_L, w.before args s = true := by
  intro w hw
  have h1 := h w hw
  simp only [tw_L, List.mem_cons, List.not_mem_nil, or_false] at hw
  rcases hw with rfl | rfl | rfl | rfl | rfl <;> exact va_Nw.use rfl h1
theorem tx_nA : ∀ w ∈ (vx_atS RX4 74 eA eNs).filter (fun w => !goodWord w), w ∈ tw_L := by decide +kernel
theorem tx_nS : ∀ w ∈ (vx_atS RX4 57 eS eNs).filter (fun w => !goodWord w), w ∈ tw_L := by decide +kernel
theorem tx_gA : ∀ w ∈ Cond.classLink RX4 70 eA :: Cond.initialized eA :: vx_atS RX4 74 eA eNs, vx_ot w = true := by decide +kernel
theorem tx_gS : ∀ w ∈ Cond.classLink RX4 53 eS :: Cond.initialized eS :: vx_atS RX4 57 eS eNs, vx_ot w = true := by decide +kernel
theorem tx_hatA {args : Array Value} {s : State} {ad : Nat → Nat} {sz : Nat} {H : Heap} (h1 : ∀ w ∈ (vx_atS RX4 74 eA eNs).filter goodWord, w.before args s = true) (hT : tx ad sz s H) : ∀ w ∈ vx_atS RX4 74 eA eNs, w.before args s = true := vx_hat h1 tx_nA (tw_use hT.1)
theorem tx_hatS {args : Array Value} {s : State} {ad : Nat → Nat} {sz : Nat} {H : Heap} (h1 : ∀ w ∈ (vx_atS RX4 57 eS eNs).filter goodWord, w.before args s = true) (hT : tx ad sz s H) : ∀ w ∈ vx_atS RX4 57 eS eNs, w.before args s = true := vx_hat h1 tx_nS (tw_use hT.1)
