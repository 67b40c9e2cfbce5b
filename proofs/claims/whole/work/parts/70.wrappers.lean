/-! ===== the law's wrappers: a call of the class, its exceptions caught ===== -/
abbrev oW (en : en_T) (o : Nat) (f : Nat → Int64) : va_W := [(o, .inl (en.2.2.1, 1, .inr (.inl f)))]
def wA (ad : Nat → Nat) (o sz : Nat) : Nat → Prop := fun q => xw_A ad sz q ∨ q = o
theorem va_P.inl {D : va_G} {cl : List vw_C} {a b : va_W} {H : Heap} (h : va_P D cl (a ++ b) H) : va_P D cl a H := fun k q hk => h k q (by rw [List.getElem?_append_left (List.getElem?_eq_some_iff.mp hk).1]; exact hk)
theorem va_P.inr {D : va_G} {cl : List vw_C} {a b : va_W} {H : Heap} (h : va_P D cl (a ++ b) H) : va_P D cl b H := fun k q hk => h (a.length + k) q (by rw [List.getElem?_append_right (by omega), show a.length + k - a.length = k by omega]; exact hk)
theorem oW_D {en : en_T} {ad : Nat → Nat} {c : Nat → Nat → Int32} {o sz : Nat} {f : Nat → Int64} (hI : xw_I ad) (ho : ∀ k, k < 29 → ad k ≠ o) : va_D (wA ad o sz) (xw en ad c ++ oW en o f) := by
  have h1 := xw_D (en := en) (c := c) (sz := sz) hI
  refine va_D.app (h1.weaken (fun _ _ _ h => Or.inl h)) ⟨fun i j p q hi hj _ => ?_, fun k q hk => ?_⟩ (fun i j p q hi hj e => ?_)
  · have a1 : i < 1 := (List.getElem?_eq_some_iff.mp hi).1
    have a2 : j < 1 := (List.getElem?_eq_some_iff.mp hj).1
    omega
  · have a1 : k < 1 := (List.getElem?_eq_some_iff.mp hk).1
    rw [show k = 0 by omega] at hk
    cases hk
    exact Or.inr rfl
  · have a1 : j < 1 := (List.getElem?_eq_some_iff.mp hj).1
    rw [show j = 0 by omega] at hj
    cases hj
    obtain ⟨h2, h3⟩ := xw_fst hi
    exact ho i h2 (h3.symm.trans e)
theorem oW_keep {en : en_T} {ad : Nat → Nat} {o : Nat} {f : Nat → Int64} {H H1 : Heap} (ho : ∀ k, k < 29 → ad k ≠ o) (h : va_P en.1 vwCl (oW en o f) H) (hk : ∀ q : Nat, q < H.size → ¬ xw_A ad H.size q → H1[q]? = H[q]?) : va_P en.1 vwCl (oW en o f) H1 := h.kept (fun k q hq => by
  have a1 : k < 1 := (List.getElem?_eq_some_iff.mp hq).1
  have hlt := (h k q hq).lt
  rw [show k = 0 by omega] at hq
  cases hq
  refine hk o hlt (fun z => z.elim (fun ⟨i, hi, e⟩ => ho i hi e.symm) (fun z => ?_))
  have hlt : o < H.size := hlt
  omega)
def wp_Pc (en : en_T) (ad : Nat → Nat) (sz : Nat) (av : List Value) (B : Heap → Prop) : Array Value → State → Prop := fun v U => v = av.toArray ∧ en_ok en U ∧ (U.heap.size = sz ∧ tx ad sz U U.heap ∧ va_Nc eS eA U) ∧ B U.heap
theorem wp_blind {en : en_T} {ad : Nat → Nat} {sz : Nat} {av : List Value} {B : Heap → Prop} : FrameBlind (wp_Pc en ad sz av B) := fun _ U g mk q => ⟨q.1, q.2.1.calling, ⟨q.2.2.1.1, q.2.2.1.2.1.calling, va_Nc.moved (u := U) (U := U.calling g mk _) (Vm.Alike.refl U.vm) q.2.2.1.2.2⟩, q.2.2.2⟩
theorem wp_preS {en : en_T} {ad : Nat → Nat} {B : Heap → Prop} {s : State} {H : Heap} {As : List Value} (hE : en_ok en s) (hT : tx ad H.size s H) (hN : va_Nc eS eA s) (hB : B H) : PreS s H (wp_Pc en ad H.size As B) As := ⟨wp_blind, fun U hU hW => ⟨rfl, hE.warm hW, ⟨by rw [hU], by rw [hU]; exact hT.warm hW, hN.moved hW.alike⟩, by rw [hU]; exact hB⟩⟩
set_option maxHeartbeats 4000000 in
set_option maxRecDepth 100000 in
/-- the law's own vertex -/
theorem lc_vertex (l : Launch) (hlt : l.stackTraces = false) (en : en_T) (ad : Nat → Nat) (c : Nat → Nat → Int32) (hI : xw_I ad) (o : Nat) (f : Nat → Int64) (ho : ∀ k, k < 29 → ad k ≠ o) (sz : Nat) {G : gr_T} (hc_ : ci G c) (x : Int32) : Met l yL_vertex wsL_vertex (rm_ 42 4 24) (wp_Pc en ad sz [.ref (ad 0), .int x, .ref o] (fun H => va_P en.1 vwCl (xw en ad c) H ∧ va_P en.1 vwCl (oW en o f) H)) (va_Qi (fun (r : Int32) (u : (Nat → Nat → Int32) × (Nat → Int64)) => (r = 1 ∧ ((fun E => (E = eA ∧ ¬ (x = 0 ∨ x = 1)) ∨ (E = eS ∧ (x = 0 ∨ x = 1) ∧ ¬ gr_n G < 7)) eA) ∧ u.1 = c) ∨ (r = 2 ∧ ((fun E => (E = eA ∧ ¬ (x = 0 ∨ x = 1)) ∨ (E = eS ∧ (x = 0 ∨ x = 1) ∧ ¬ gr_n G < 7)) eS) ∧ u.1 = c) ∨ (r = 0 ∧ ∃ r0 : Int32, ((fun r c' => (x = 0 ∨ x = 1) ∧ gr_n G < 7 ∧ r = nI (gr_n G) ∧ ci (gr_addV G x) c') r0 u.1) ∧ u.2 0 = r0.toInt64)) (fun u t => va_P en.1 vwCl (xw en ad u.1) t.heap ∧ va_P en.1 vwCl (oW en o u.2) t.heap) (wA ad o sz)) 4 24 (wA ad o sz) := by
  refine va_MetW (cc := cL_vertex) (maxL := 4) (ret := (some .int)) (hh := [(0, 9, 12, 13), (0, 9, 15, 15)]) (by decide) rfl ?_
  intro p e s m args below meth co s₁ B hml hv
  obtain ⟨rfl, hE, ⟨hsz, hT, hN⟩, hP, hPo⟩ := hv
  subst hsz
  have hx := B.exec
  have hb := B.bytes
  have hr := B.returns
  have hts := atoms_spec (ws := wsL_vertex) B.pre
  have hown : s.vm.findClass RL = some m.cls := findClass_of_methodNamed B.named
  have hlocks := B.notSynchronized
  have htab := vx_table (x := yX4_init) B (hts _ List.mem_cons_self)
  have hS : va_S (wA ad o s.heap.size) s.heap s.heap [] := va_S.rf
  have hl := lv_entry ([.ref (ad 0), .int x, .ref o]) (n := 4) (Nat.le_of_ble_eq_true rfl)
  rw [lg_entry_eq]
  generalize (lg_sl ([.ref (ad 0), .int x, .ref o]) ++ List.replicate (4 - (lg_sl ([.ref (ad 0), .int x, .ref o])).length) Slot.unset).toArray = ls at hl ⊢
  have hl : lv_has ls 4 [(0, .ref (ad 0)), (1, .int x), (2, .ref o)] := hl
  refine lv_aload_n hx hb dL_vertex_0 rfl (lv_at hl 2 rfl) ?_
  refine lv_iconst (v := 0) hx hb dL_vertex_1 (by decide) ?_
  refine lv_aload_n hx hb dL_vertex_2 rfl (lv_at hl 0 rfl) ?_
  refine lv_iload_n hx hb dL_vertex_3 rfl (lv_at hl 1 rfl) ?_
  refine vx_calli (vx_runV (As := [.int x]) (rest := [.int 0, .ref o]) ⟨hx, hb, hml, hown, hts⟩ (ct_vertex l hlt en ad c hI _ hc_ x) (cwV 1 hts gL_vertex_X4_vertex rfl rfl rfl (by decide +kernel) ⟨(Nat.le_of_ble_eq_true rfl), (Nat.le_of_ble_eq_true rfl)⟩) (tc_preV hE hT (va_recv hE.1 hP (ci := 4) (q0 := 0) rfl rfl) hP) rfl rfl hl.1 rfl (lv_room (Nat.le_of_ble_eq_true rfl)) dL_vertex_4 ⟨(Nat.le_of_ble_eq_true rfl), (Nat.le_of_ble_eq_true rfl)⟩) hS (fun q _ h => Or.inl h) (fun q h => Or.inl h) (fun q _ h => Or.inl h) (fun E9 ce q9 u9 t9 H locs ht9 _ _ hX9 hz9 hk9 hS hce hcv hcl => ?_) (fun rq cq t9 H locs ht9 _ hpo hP hz9 hk9 hS => ?_)
  · obtain ⟨hXE, hP⟩ := hX9
    rw [ht9] at hP
    have hPo := oW_keep ho hPo hk9
    have hEE : E9 = eA ∨ E9 = eS := by
      rcases hXE with q | q; exact Or.inl q.1; exact Or.inr q.1
    rcases hEE with rfl | rfl
    · skip
      refine vx_catch (name := eA) hown [] (⟨0, 9, 12, 13⟩ : ExceptionTableEntry) [(⟨0, 9, 15, 15⟩ : ExceptionTableEntry)] htab (fun z hz => absurd hz List.not_mem_nil) rfl (by decide) (hts (.classLink RL 13 eA) (by decide +kernel)) (va_Nw.use rfl (hT.1 (.castable eA eA) (by decide))) hce hcv hcl ?_
      refine W.eq (g2 := F0 m 12 ls [.ref q9]) rfl ?_
      refine lv_astore_n (lv' := [(3, .ref q9), (0, .ref (ad 0)), (1, .int x), (2, .ref o)]) hx hb dL_vertex_12 rfl hl (by decide) rfl (fun ls hl => ?_)
      refine lv_iconst (v := 1) hx hb dL_vertex_13 (by decide) ?_
      exact W.iret (v := 1) hx hb hr (fun t ht hW => ⟨⟨_, (c, f), rfl, Or.inl ⟨rfl, hXE, rfl⟩, by rw [ht]; exact hP, by rw [ht]; exact hPo⟩, hS.F ht⟩) hS.2.2 dL_vertex_14
    · skip
      refine vx_catch (name := eS) hown [(⟨0, 9, 12, 13⟩ : ExceptionTableEntry)] (⟨0, 9, 15, 15⟩ : ExceptionTableEntry) [] htab (fun z hz => by rcases List.mem_singleton.mp hz with rfl; exact Or.inr ⟨by decide, eA, hts (.classLink RL 13 eA) (by decide +kernel), hN⟩) rfl (by decide) (hts (.classLink RL 15 eS) (by decide +kernel)) (va_Nw.use rfl (hT.1 (.castable eS eS) (by decide))) hce hcv hcl ?_
      refine W.eq (g2 := F0 m 15 ls [.ref q9]) rfl ?_
      refine lv_astore_n (lv' := [(3, .ref q9), (0, .ref (ad 0)), (1, .int x), (2, .ref o)]) hx hb dL_vertex_15 rfl hl (by decide) rfl (fun ls hl => ?_)
      refine lv_iconst (v := 2) hx hb dL_vertex_16 (by decide) ?_
      exact W.iret (v := 2) hx hb hr (fun t ht hW => ⟨⟨_, (c, f), rfl, Or.inr (Or.inl ⟨rfl, hXE, rfl⟩), by rw [ht]; exact hP, by rw [ht]; exact hPo⟩, hS.F ht⟩) hS.2.2 dL_vertex_17
  · skip
    rw [ht9] at hP
    have hPo := oW_keep ho hPo hk9
    refine lv_i2l (v := rq.toInt64) hx hb dL_vertex_7 rfl ?_
    have hPj : va_P en.1 vwCl (xw en ad cq ++ oW en o f) H := hP.app hPo
    refine va_last (ws := xw en ad cq ++ oW en o f) (a := o) hx hb hE.1 hPj (oW_D hI ho) hS 29 1 (n := 1) (f := f) (cA := en.2.2.1) rfl rfl (by unfold vp_in; decide) dL_vertex_8 (fun H locs hPj _ hS => ?_)
    have hPj : va_P en.1 vwCl (xw en ad cq ++ oW en o (vp_updL f 0 (rq.toInt64))) H := hPj
    have hP := hPj.inl
    have hPo := hPj.inr
    refine lv_goto (tgt := 18) hx hb dL_vertex_9 (by decide) ?_
    refine lv_iconst (v := 0) hx hb dL_vertex_18 (by decide) ?_
    exact W.iret (v := 0) hx hb hr (fun t ht hW => ⟨⟨_, (cq, vp_updL f 0 (rq.toInt64)), rfl, Or.inr (Or.inr ⟨rfl, rq, hpo, (show vp_updL f 0 _ 0 = _ from pk_uLs)⟩), by rw [ht]; exact hP, by rw [ht]; exact hPo⟩, hS.F ht⟩) hS.2.2 dL_vertex_19
set_option maxHeartbeats 4000000 in
set_option maxRecDepth 100000 in
/-- the law's own edge -/
theorem lc_edge (l : Launch) (hlt : l.stackTraces = false) (en : en_T) (ad : Nat → Nat) (c : Nat → Nat → Int32) (hI : xw_I ad) (o : Nat) (f : Nat → Int64) (ho : ∀ k, k < 29 → ad k ≠ o) (sz : Nat) {G : gr_T} (hc_ : ci G c) (a b x : Int32) : Met l yL_edge wsL_edge (rm_ 42 4 24) (wp_Pc en ad sz [.ref (ad 0), .int a, .int b, .int x, .ref o] (fun H => va_P en.1 vwCl (xw en ad c) H ∧ va_P en.1 vwCl (oW en o f) H)) (va_Qi (fun (r : Int32) (u : (Nat → Nat → Int32) × (Nat → Int64)) => (r = 1 ∧ ((fun E => (E = eA ∧ ¬ ((∃ i, i < gr_n G ∧ a = nI i) ∧ (∃ j, j < gr_n G ∧ b = nI j) ∧ -9 ≤ x.toInt ∧ x.toInt ≤ 9)) ∨ (E = eS ∧ ((∃ i, i < gr_n G ∧ a = nI i) ∧ (∃ j, j < gr_n G ∧ b = nI j) ∧ -9 ≤ x.toInt ∧ x.toInt ≤ 9) ∧ ¬ gr_E G < 24)) eA) ∧ u.1 = c) ∨ (r = 2 ∧ ((fun E => (E = eA ∧ ¬ ((∃ i, i < gr_n G ∧ a = nI i) ∧ (∃ j, j < gr_n G ∧ b = nI j) ∧ -9 ≤ x.toInt ∧ x.toInt ≤ 9)) ∨ (E = eS ∧ ((∃ i, i < gr_n G ∧ a = nI i) ∧ (∃ j, j < gr_n G ∧ b = nI j) ∧ -9 ≤ x.toInt ∧ x.toInt ≤ 9) ∧ ¬ gr_E G < 24)) eS) ∧ u.1 = c) ∨ (r = 0 ∧ ∃ r0 : Int32, ((fun r c' => ((∃ i, i < gr_n G ∧ a = nI i) ∧ (∃ j, j < gr_n G ∧ b = nI j) ∧ -9 ≤ x.toInt ∧ x.toInt ≤ 9) ∧ gr_E G < 24 ∧ r = nI (gr_E G) ∧ ci (gr_addE G a b x) c') r0 u.1) ∧ u.2 0 = r0.toInt64)) (fun u t => va_P en.1 vwCl (xw en ad u.1) t.heap ∧ va_P en.1 vwCl (oW en o u.2) t.heap) (wA ad o sz)) 4 24 (wA ad o sz) := by
  refine va_MetW (cc := cL_edge) (maxL := 6) (ret := (some .int)) (hh := [(0, 12, 15, 13), (0, 12, 19, 15)]) (by decide) rfl ?_
  intro p e s m args below meth co s₁ B hml hv
  obtain ⟨rfl, hE, ⟨hsz, hT, hN⟩, hP, hPo⟩ := hv
  subst hsz
  have hx := B.exec
  have hb := B.bytes
  have hr := B.returns
  have hts := atoms_spec (ws := wsL_edge) B.pre
  have hown : s.vm.findClass RL = some m.cls := findClass_of_methodNamed B.named
  have hlocks := B.notSynchronized
  have htab := vx_table (x := yX4_init) B (hts _ List.mem_cons_self)
  have hS : va_S (wA ad o s.heap.size) s.heap s.heap [] := va_S.rf
  have hl := lv_entry ([.ref (ad 0), .int a, .int b, .int x, .ref o]) (n := 6) (Nat.le_of_ble_eq_true rfl)
  rw [lg_entry_eq]
  generalize (lg_sl ([.ref (ad 0), .int a, .int b, .int x, .ref o]) ++ List.replicate (6 - (lg_sl ([.ref (ad 0), .int a, .int b, .int x, .ref o])).length) Slot.unset).toArray = ls at hl ⊢
  have hl : lv_has ls 6 [(0, .ref (ad 0)), (1, .int a), (2, .int b), (3, .int x), (4, .ref o)] := hl
  refine lv_aload hx hb dL_edge_0 (lv_at hl 4 rfl) ?_
  refine lv_iconst (v := 0) hx hb dL_edge_2 (by decide) ?_
  refine lv_aload_n hx hb dL_edge_3 rfl (lv_at hl 0 rfl) ?_
  refine lv_iload_n hx hb dL_edge_4 rfl (lv_at hl 1 rfl) ?_
  refine lv_iload_n hx hb dL_edge_5 rfl (lv_at hl 2 rfl) ?_
  refine lv_iload_n hx hb dL_edge_6 rfl (lv_at hl 3 rfl) ?_
  refine vx_calli (vx_runV (As := [.int a, .int b, .int x]) (rest := [.int 0, .ref o]) ⟨hx, hb, hml, hown, hts⟩ (ct_edge l hlt en ad c hI _ hc_ a b x) (cwV 3 hts gL_edge_X4_edge rfl rfl rfl (by decide +kernel) ⟨(Nat.le_of_ble_eq_true rfl), (Nat.le_of_ble_eq_true rfl)⟩) (tc_preV hE hT (va_recv hE.1 hP (ci := 4) (q0 := 0) rfl rfl) hP) rfl rfl hl.1 rfl (lv_room (Nat.le_of_ble_eq_true rfl)) dL_edge_7 ⟨(Nat.le_of_ble_eq_true rfl), (Nat.le_of_ble_eq_true rfl)⟩) hS (fun q _ h => Or.inl h) (fun q h => Or.inl h) (fun q _ h => Or.inl h) (fun E9 ce q9 u9 t9 H locs ht9 _ _ hX9 hz9 hk9 hS hce hcv hcl => ?_) (fun rq cq t9 H locs ht9 _ hpo hP hz9 hk9 hS => ?_)
  · obtain ⟨hXE, hP⟩ := hX9
    rw [ht9] at hP
    have hPo := oW_keep ho hPo hk9
    have hEE : E9 = eA ∨ E9 = eS := by
      rcases hXE with q | q; exact Or.inl q.1; exact Or.inr q.1
    rcases hEE with rfl | rfl
    · skip
      refine vx_catch (name := eA) hown [] (⟨0, 12, 15, 13⟩ : ExceptionTableEntry) [(⟨0, 12, 19, 15⟩ : ExceptionTableEntry)] htab (fun z hz => absurd hz List.not_mem_nil) rfl (by decide) (hts (.classLink RL 13 eA) (by decide +kernel)) (va_Nw.use rfl (hT.1 (.castable eA eA) (by decide))) hce hcv hcl ?_
      refine W.eq (g2 := F0 m 15 ls [.ref q9]) rfl ?_
      refine lv_astore (lv' := [(5, .ref q9), (0, .ref (ad 0)), (1, .int a), (2, .int b), (3, .int x), (4, .ref o)]) hx hb dL_edge_15 hl (by decide) rfl (fun ls hl => ?_)
      refine lv_iconst (v := 1) hx hb dL_edge_17 (by decide) ?_
      exact W.iret (v := 1) hx hb hr (fun t ht hW => ⟨⟨_, (c, f), rfl, Or.inl ⟨rfl, hXE, rfl⟩, by rw [ht]; exact hP, by rw [ht]; exact hPo⟩, hS.F ht⟩) hS.2.2 dL_edge_18
    · skip
      refine vx_catch (name := eS) hown [(⟨0, 12, 15, 13⟩ : ExceptionTableEntry)] (⟨0, 12, 19, 15⟩ : ExceptionTableEntry) [] htab (fun z hz => by rcases List.mem_singleton.mp hz with rfl; exact Or.inr ⟨by decide, eA, hts (.classLink RL 13 eA) (by decide +kernel), hN⟩) rfl (by decide) (hts (.classLink RL 15 eS) (by decide +kernel)) (va_Nw.use rfl (hT.1 (.castable eS eS) (by decide))) hce hcv hcl ?_
      refine W.eq (g2 := F0 m 19 ls [.ref q9]) rfl ?_
      refine lv_astore (lv' := [(5, .ref q9), (0, .ref (ad 0)), (1, .int a), (2, .int b), (3, .int x), (4, .ref o)]) hx hb dL_edge_19 hl (by decide) rfl (fun ls hl => ?_)
      refine lv_iconst (v := 2) hx hb dL_edge_21 (by decide) ?_
      exact W.iret (v := 2) hx hb hr (fun t ht hW => ⟨⟨_, (c, f), rfl, Or.inr (Or.inl ⟨rfl, hXE, rfl⟩), by rw [ht]; exact hP, by rw [ht]; exact hPo⟩, hS.F ht⟩) hS.2.2 dL_edge_22
  · skip
    rw [ht9] at hP
    have hPo := oW_keep ho hPo hk9
    refine lv_i2l (v := rq.toInt64) hx hb dL_edge_10 rfl ?_
    have hPj : va_P en.1 vwCl (xw en ad cq ++ oW en o f) H := hP.app hPo
    refine va_last (ws := xw en ad cq ++ oW en o f) (a := o) hx hb hE.1 hPj (oW_D hI ho) hS 29 1 (n := 1) (f := f) (cA := en.2.2.1) rfl rfl (by unfold vp_in; decide) dL_edge_11 (fun H locs hPj _ hS => ?_)
    have hPj : va_P en.1 vwCl (xw en ad cq ++ oW en o (vp_updL f 0 (rq.toInt64))) H := hPj
    have hP := hPj.inl
    have hPo := hPj.inr
    refine lv_goto (tgt := 23) hx hb dL_edge_12 (by decide) ?_
    refine lv_iconst (v := 0) hx hb dL_edge_23 (by decide) ?_
    exact W.iret (v := 0) hx hb hr (fun t ht hW => ⟨⟨_, (cq, vp_updL f 0 (rq.toInt64)), rfl, Or.inr (Or.inr ⟨rfl, rq, hpo, (show vp_updL f 0 _ 0 = _ from pk_uLs)⟩), by rw [ht]; exact hP, by rw [ht]; exact hPo⟩, hS.F ht⟩) hS.2.2 dL_edge_24
set_option maxHeartbeats 4000000 in
set_option maxRecDepth 100000 in
/-- the law's own fix -/
theorem lc_fix (l : Launch) (hlt : l.stackTraces = false) (en : en_T) (ad : Nat → Nat) (c : Nat → Nat → Int32) (hI : xw_I ad) (o : Nat) (f : Nat → Int64) (ho : ∀ k, k < 29 → ad k ≠ o) (sz : Nat) {G : gr_T} (hc_ : ci G c) (v x : Int32) : Met l yL_fix wsL_fix (rm_ 42 4 24) (wp_Pc en ad sz [.ref (ad 0), .int v, .int x] (fun H => va_P en.1 vwCl (xw en ad c) H ∧ va_P en.1 vwCl (oW en o f) H)) (va_Qi (fun (r : Int32) (u : (Nat → Nat → Int32) × (Nat → Int64)) => (r = 1 ∧ ((fun E => E = eA ∧ ¬ ((∃ j, j < gr_n G ∧ v = nI j) ∧ (x = -1 ∨ ∃ k, k < gr_E G ∧ x = nI k ∧ gr_src G k = v))) eA) ∧ u.1 = c) ∨ (r = 2 ∧ ((fun E => E = eA ∧ ¬ ((∃ j, j < gr_n G ∧ v = nI j) ∧ (x = -1 ∨ ∃ k, k < gr_E G ∧ x = nI k ∧ gr_src G k = v))) eS) ∧ u.1 = c) ∨ (r = 0 ∧ ((fun c' => ((∃ j, j < gr_n G ∧ v = nI j) ∧ (x = -1 ∨ ∃ k, k < gr_E G ∧ x = nI k ∧ gr_src G k = v)) ∧ ∀ j, j < gr_n G → v = nI j → ci (gr_setF G j x) c') u.1))) (fun u t => va_P en.1 vwCl (xw en ad u.1) t.heap ∧ va_P en.1 vwCl (oW en o u.2) t.heap) (wA ad o sz)) 4 24 (wA ad o sz) := by
  refine va_MetW (cc := cL_fix) (maxL := 4) (ret := (some .int)) (hh := [(0, 6, 9, 13)]) (by decide) rfl ?_
  intro p e s m args below meth co s₁ B hml hv
  obtain ⟨rfl, hE, ⟨hsz, hT, hN⟩, hP, hPo⟩ := hv
  subst hsz
  have hx := B.exec
  have hb := B.bytes
  have hr := B.returns
  have hts := atoms_spec (ws := wsL_fix) B.pre
  have hown : s.vm.findClass RL = some m.cls := findClass_of_methodNamed B.named
  have hlocks := B.notSynchronized
  have htab := vx_table (x := yX4_init) B (hts _ List.mem_cons_self)
  have hS : va_S (wA ad o s.heap.size) s.heap s.heap [] := va_S.rf
  have hl := lv_entry ([.ref (ad 0), .int v, .int x]) (n := 4) (Nat.le_of_ble_eq_true rfl)
  rw [lg_entry_eq]
  generalize (lg_sl ([.ref (ad 0), .int v, .int x]) ++ List.replicate (4 - (lg_sl ([.ref (ad 0), .int v, .int x])).length) Slot.unset).toArray = ls at hl ⊢
  have hl : lv_has ls 4 [(0, .ref (ad 0)), (1, .int v), (2, .int x)] := hl
  refine lv_aload_n hx hb dL_fix_0 rfl (lv_at hl 0 rfl) ?_
  refine lv_iload_n hx hb dL_fix_1 rfl (lv_at hl 1 rfl) ?_
  refine lv_iload_n hx hb dL_fix_2 rfl (lv_at hl 2 rfl) ?_
  refine vx_callv (vx_runV (As := [.int v, .int x]) (rest := []) ⟨hx, hb, hml, hown, hts⟩ (ct_fix l hlt en ad c hI _ hc_ v x) (cwV 2 hts gL_fix_X4_fix rfl rfl rfl (by decide +kernel) ⟨(Nat.le_of_ble_eq_true rfl), (Nat.le_of_ble_eq_true rfl)⟩) (tc_preV hE hT (va_recv hE.1 hP (ci := 4) (q0 := 0) rfl rfl) hP) rfl rfl hl.1 rfl (lv_room (Nat.le_of_ble_eq_true rfl)) dL_fix_3 ⟨(Nat.le_of_ble_eq_true rfl), (Nat.le_of_ble_eq_true rfl)⟩) hS (fun q _ h => Or.inl h) (fun q h => Or.inl h) (fun q _ h => Or.inl h) (fun E9 ce q9 u9 t9 H locs ht9 _ _ hX9 hz9 hk9 hS hce hcv hcl => ?_) (fun cq t9 H locs ht9 _ hpo hP hz9 hk9 hS => ?_)
  · obtain ⟨hXE, hP⟩ := hX9
    rw [ht9] at hP
    have hPo := oW_keep ho hPo hk9
    have hEE : E9 = eA := by
      exact hXE.1
    subst hEE
    refine vx_catch (name := eA) hown [] (⟨0, 6, 9, 13⟩ : ExceptionTableEntry) [] htab (fun z hz => absurd hz List.not_mem_nil) rfl (by decide) (hts (.classLink RL 13 eA) (by decide +kernel)) (va_Nw.use rfl (hT.1 (.castable eA eA) (by decide))) hce hcv hcl ?_
    refine W.eq (g2 := F0 m 9 ls [.ref q9]) rfl ?_
    refine lv_astore_n (lv' := [(3, .ref q9), (0, .ref (ad 0)), (1, .int v), (2, .int x)]) hx hb dL_fix_9 rfl hl (by decide) rfl (fun ls hl => ?_)
    refine lv_iconst (v := 1) hx hb dL_fix_10 (by decide) ?_
    exact W.iret (v := 1) hx hb hr (fun t ht hW => ⟨⟨_, (c, f), rfl, Or.inl ⟨rfl, hXE, rfl⟩, by rw [ht]; exact hP, by rw [ht]; exact hPo⟩, hS.F ht⟩) hS.2.2 dL_fix_11
  · skip
    rw [ht9] at hP
    have hPo := oW_keep ho hPo hk9
    refine lv_goto (tgt := 12) hx hb dL_fix_6 (by decide) ?_
    refine lv_iconst (v := 0) hx hb dL_fix_12 (by decide) ?_
    exact W.iret (v := 0) hx hb hr (fun t ht hW => ⟨⟨_, (cq, f), rfl, Or.inr (Or.inr ⟨rfl, hpo⟩), by rw [ht]; exact hP, by rw [ht]; exact hPo⟩, hS.F ht⟩) hS.2.2 dL_fix_13
set_option maxHeartbeats 4000000 in
set_option maxRecDepth 100000 in
/-- the law's own fixed -/
theorem lc_fixed (l : Launch) (hlt : l.stackTraces = false) (en : en_T) (ad : Nat → Nat) (c : Nat → Nat → Int32) (hI : xw_I ad) (o : Nat) (f : Nat → Int64) (ho : ∀ k, k < 29 → ad k ≠ o) (sz : Nat) {G : gr_T} (hc_ : ci G c) (v : Int32) : Met l yL_fixed wsL_fixed (rm_ 42 4 24) (wp_Pc en ad sz [.ref (ad 0), .int v, .ref o] (fun H => va_P en.1 vwCl (xw en ad c) H ∧ va_P en.1 vwCl (oW en o f) H)) (va_Qi (fun (r : Int32) (u : (Nat → Nat → Int32) × (Nat → Int64)) => (r = 1 ∧ ((fun E => E = eA ∧ ¬ (∃ j, j < gr_n G ∧ v = nI j)) eA) ∧ u.1 = c) ∨ (r = 2 ∧ ((fun E => E = eA ∧ ¬ (∃ j, j < gr_n G ∧ v = nI j)) eS) ∧ u.1 = c) ∨ (r = 0 ∧ ∃ r0 : Int32, ((fun r c' => (∃ j, j < gr_n G ∧ v = nI j ∧ r = gr_fx G j) ∧ ci G c') r0 u.1) ∧ u.2 0 = r0.toInt64)) (fun u t => va_P en.1 vwCl (xw en ad u.1) t.heap ∧ va_P en.1 vwCl (oW en o u.2) t.heap) (wA ad o sz)) 4 24 (wA ad o sz) := by
  refine va_MetW (cc := cL_fixed) (maxL := 4) (ret := (some .int)) (hh := [(0, 9, 12, 13)]) (by decide) rfl ?_
  intro p e s m args below meth co s₁ B hml hv
  obtain ⟨rfl, hE, ⟨hsz, hT, hN⟩, hP, hPo⟩ := hv
  subst hsz
  have hx := B.exec
  have hb := B.bytes
  have hr := B.returns
  have hts := atoms_spec (ws := wsL_fixed) B.pre
  have hown : s.vm.findClass RL = some m.cls := findClass_of_methodNamed B.named
  have hlocks := B.notSynchronized
  have htab := vx_table (x := yX4_init) B (hts _ List.mem_cons_self)
  have hS : va_S (wA ad o s.heap.size) s.heap s.heap [] := va_S.rf
  have hl := lv_entry ([.ref (ad 0), .int v, .ref o]) (n := 4) (Nat.le_of_ble_eq_true rfl)
  rw [lg_entry_eq]
  generalize (lg_sl ([.ref (ad 0), .int v, .ref o]) ++ List.replicate (4 - (lg_sl ([.ref (ad 0), .int v, .ref o])).length) Slot.unset).toArray = ls at hl ⊢
  have hl : lv_has ls 4 [(0, .ref (ad 0)), (1, .int v), (2, .ref o)] := hl
  refine lv_aload_n hx hb dL_fixed_0 rfl (lv_at hl 2 rfl) ?_
  refine lv_iconst (v := 0) hx hb dL_fixed_1 (by decide) ?_
  refine lv_aload_n hx hb dL_fixed_2 rfl (lv_at hl 0 rfl) ?_
  refine lv_iload_n hx hb dL_fixed_3 rfl (lv_at hl 1 rfl) ?_
  refine vx_calli (vx_runV (As := [.int v]) (rest := [.int 0, .ref o]) ⟨hx, hb, hml, hown, hts⟩ (ct_fixed l hlt en ad c hI _ hc_ v) (cwV 1 hts gL_fixed_X4_fixed rfl rfl rfl (by decide +kernel) ⟨(Nat.le_of_ble_eq_true rfl), (Nat.le_of_ble_eq_true rfl)⟩) (tc_preV hE hT (va_recv hE.1 hP (ci := 4) (q0 := 0) rfl rfl) hP) rfl rfl hl.1 rfl (lv_room (Nat.le_of_ble_eq_true rfl)) dL_fixed_4 ⟨(Nat.le_of_ble_eq_true rfl), (Nat.le_of_ble_eq_true rfl)⟩) hS (fun q _ h => Or.inl h) (fun q h => Or.inl h) (fun q _ h => Or.inl h) (fun E9 ce q9 u9 t9 H locs ht9 _ _ hX9 hz9 hk9 hS hce hcv hcl => ?_) (fun rq cq t9 H locs ht9 _ hpo hP hz9 hk9 hS => ?_)
  · obtain ⟨hXE, hP⟩ := hX9
    rw [ht9] at hP
    have hPo := oW_keep ho hPo hk9
    have hEE : E9 = eA := by
      exact hXE.1
    subst hEE
    refine vx_catch (name := eA) hown [] (⟨0, 9, 12, 13⟩ : ExceptionTableEntry) [] htab (fun z hz => absurd hz List.not_mem_nil) rfl (by decide) (hts (.classLink RL 13 eA) (by decide +kernel)) (va_Nw.use rfl (hT.1 (.castable eA eA) (by decide))) hce hcv hcl ?_
    refine W.eq (g2 := F0 m 12 ls [.ref q9]) rfl ?_
    refine lv_astore_n (lv' := [(3, .ref q9), (0, .ref (ad 0)), (1, .int v), (2, .ref o)]) hx hb dL_fixed_12 rfl hl (by decide) rfl (fun ls hl => ?_)
    refine lv_iconst (v := 1) hx hb dL_fixed_13 (by decide) ?_
    exact W.iret (v := 1) hx hb hr (fun t ht hW => ⟨⟨_, (c, f), rfl, Or.inl ⟨rfl, hXE, rfl⟩, by rw [ht]; exact hP, by rw [ht]; exact hPo⟩, hS.F ht⟩) hS.2.2 dL_fixed_14
  · skip
    rw [ht9] at hP
    have hPo := oW_keep ho hPo hk9
    refine lv_i2l (v := rq.toInt64) hx hb dL_fixed_7 rfl ?_
    have hPj : va_P en.1 vwCl (xw en ad cq ++ oW en o f) H := hP.app hPo
    refine va_last (ws := xw en ad cq ++ oW en o f) (a := o) hx hb hE.1 hPj (oW_D hI ho) hS 29 1 (n := 1) (f := f) (cA := en.2.2.1) rfl rfl (by unfold vp_in; decide) dL_fixed_8 (fun H locs hPj _ hS => ?_)
    have hPj : va_P en.1 vwCl (xw en ad cq ++ oW en o (vp_updL f 0 (rq.toInt64))) H := hPj
    have hP := hPj.inl
    have hPo := hPj.inr
    refine lv_goto (tgt := 15) hx hb dL_fixed_9 (by decide) ?_
    refine lv_iconst (v := 0) hx hb dL_fixed_15 (by decide) ?_
    exact W.iret (v := 0) hx hb hr (fun t ht hW => ⟨⟨_, (cq, vp_updL f 0 (rq.toInt64)), rfl, Or.inr (Or.inr ⟨rfl, rq, hpo, (show vp_updL f 0 _ 0 = _ from pk_uLs)⟩), by rw [ht]; exact hP, by rw [ht]; exact hPo⟩, hS.F ht⟩) hS.2.2 dL_fixed_16
set_option maxHeartbeats 4000000 in
set_option maxRecDepth 100000 in
/-- the law's own credit -/
theorem lc_credit (l : Launch) (hlt : l.stackTraces = false) (en : en_T) (ad : Nat → Nat) (c : Nat → Nat → Int32) (hI : xw_I ad) (o : Nat) (f : Nat → Int64) (ho : ∀ k, k < 29 → ad k ≠ o) (sz : Nat) {G : gr_T} (hc_ : ci G c) (v : Int32) : Met l yL_credit wsL_credit (rm_ 42 4 24) (wp_Pc en ad sz [.ref (ad 0), .int v, .ref o] (fun H => va_P en.1 vwCl (xw en ad c) H ∧ va_P en.1 vwCl (oW en o f) H)) (va_Qi (fun (r : Int32) (u : (Nat → Nat → Int32) × (Nat → Int64)) => (r = 1 ∧ ((fun E => (E = eA ∧ ¬ (∃ j, j < gr_n G ∧ v = nI j)) ∨ (E = eS ∧ (∃ j, j < gr_n G ∧ v = nI j) ∧ ¬ gr_cpl G)) eA) ∧ u.1 = c) ∨ (r = 2 ∧ ((fun E => (E = eA ∧ ¬ (∃ j, j < gr_n G ∧ v = nI j)) ∨ (E = eS ∧ (∃ j, j < gr_n G ∧ v = nI j) ∧ ¬ gr_cpl G)) eS) ∧ u.1 = c) ∨ (r = 0 ∧ ∃ r0 : Int32, ((fun r c' => gr_cpl G ∧ (∃ j, j < gr_n G ∧ v = nI j ∧ r.toInt = cr_f G 0 0 1 j) ∧ ci G c') r0 u.1) ∧ u.2 0 = r0.toInt64)) (fun u t => va_P en.1 vwCl (xw en ad u.1) t.heap ∧ va_P en.1 vwCl (oW en o u.2) t.heap) (wA ad o sz)) 4 24 (wA ad o sz) := by
  refine va_MetW (cc := cL_credit) (maxL := 4) (ret := (some .int)) (hh := [(0, 9, 12, 13), (0, 9, 15, 15)]) (by decide) rfl ?_
  intro p e s m args below meth co s₁ B hml hv
  obtain ⟨rfl, hE, ⟨hsz, hT, hN⟩, hP, hPo⟩ := hv
  subst hsz
  have hx := B.exec
  have hb := B.bytes
  have hr := B.returns
  have hts := atoms_spec (ws := wsL_credit) B.pre
  have hown : s.vm.findClass RL = some m.cls := findClass_of_methodNamed B.named
  have hlocks := B.notSynchronized
  have htab := vx_table (x := yX4_init) B (hts _ List.mem_cons_self)
  have hS : va_S (wA ad o s.heap.size) s.heap s.heap [] := va_S.rf
  have hl := lv_entry ([.ref (ad 0), .int v, .ref o]) (n := 4) (Nat.le_of_ble_eq_true rfl)
  rw [lg_entry_eq]
  generalize (lg_sl ([.ref (ad 0), .int v, .ref o]) ++ List.replicate (4 - (lg_sl ([.ref (ad 0), .int v, .ref o])).length) Slot.unset).toArray = ls at hl ⊢
  have hl : lv_has ls 4 [(0, .ref (ad 0)), (1, .int v), (2, .ref o)] := hl
  refine lv_aload_n hx hb dL_credit_0 rfl (lv_at hl 2 rfl) ?_
  refine lv_iconst (v := 0) hx hb dL_credit_1 (by decide) ?_
  refine lv_aload_n hx hb dL_credit_2 rfl (lv_at hl 0 rfl) ?_
  refine lv_iload_n hx hb dL_credit_3 rfl (lv_at hl 1 rfl) ?_
  refine vx_calli (vx_runV (As := [.int v]) (rest := [.int 0, .ref o]) ⟨hx, hb, hml, hown, hts⟩ (ct_credit l hlt en ad c hI _ hc_ v) (cwV 1 hts gL_credit_X4_credit rfl rfl rfl (by decide +kernel) ⟨(Nat.le_of_ble_eq_true rfl), (Nat.le_of_ble_eq_true rfl)⟩) (tc_preV hE hT (va_recv hE.1 hP (ci := 4) (q0 := 0) rfl rfl) hP) rfl rfl hl.1 rfl (lv_room (Nat.le_of_ble_eq_true rfl)) dL_credit_4 ⟨(Nat.le_of_ble_eq_true rfl), (Nat.le_of_ble_eq_true rfl)⟩) hS (fun q _ h => Or.inl h) (fun q h => Or.inl h) (fun q _ h => Or.inl h) (fun E9 ce q9 u9 t9 H locs ht9 _ _ hX9 hz9 hk9 hS hce hcv hcl => ?_) (fun rq cq t9 H locs ht9 _ hpo hP hz9 hk9 hS => ?_)
  · obtain ⟨hXE, hP⟩ := hX9
    rw [ht9] at hP
    have hPo := oW_keep ho hPo hk9
    have hEE : E9 = eA ∨ E9 = eS := by
      rcases hXE with q | q; exact Or.inl q.1; exact Or.inr q.1
    rcases hEE with rfl | rfl
    · skip
      refine vx_catch (name := eA) hown [] (⟨0, 9, 12, 13⟩ : ExceptionTableEntry) [(⟨0, 9, 15, 15⟩ : ExceptionTableEntry)] htab (fun z hz => absurd hz List.not_mem_nil) rfl (by decide) (hts (.classLink RL 13 eA) (by decide +kernel)) (va_Nw.use rfl (hT.1 (.castable eA eA) (by decide))) hce hcv hcl ?_
      refine W.eq (g2 := F0 m 12 ls [.ref q9]) rfl ?_
      refine lv_astore_n (lv' := [(3, .ref q9), (0, .ref (ad 0)), (1, .int v), (2, .ref o)]) hx hb dL_credit_12 rfl hl (by decide) rfl (fun ls hl => ?_)
      refine lv_iconst (v := 1) hx hb dL_credit_13 (by decide) ?_
      exact W.iret (v := 1) hx hb hr (fun t ht hW => ⟨⟨_, (c, f), rfl, Or.inl ⟨rfl, hXE, rfl⟩, by rw [ht]; exact hP, by rw [ht]; exact hPo⟩, hS.F ht⟩) hS.2.2 dL_credit_14
    · skip
      refine vx_catch (name := eS) hown [(⟨0, 9, 12, 13⟩ : ExceptionTableEntry)] (⟨0, 9, 15, 15⟩ : ExceptionTableEntry) [] htab (fun z hz => by rcases List.mem_singleton.mp hz with rfl; exact Or.inr ⟨by decide, eA, hts (.classLink RL 13 eA) (by decide +kernel), hN⟩) rfl (by decide) (hts (.classLink RL 15 eS) (by decide +kernel)) (va_Nw.use rfl (hT.1 (.castable eS eS) (by decide))) hce hcv hcl ?_
      refine W.eq (g2 := F0 m 15 ls [.ref q9]) rfl ?_
      refine lv_astore_n (lv' := [(3, .ref q9), (0, .ref (ad 0)), (1, .int v), (2, .ref o)]) hx hb dL_credit_15 rfl hl (by decide) rfl (fun ls hl => ?_)
      refine lv_iconst (v := 2) hx hb dL_credit_16 (by decide) ?_
      exact W.iret (v := 2) hx hb hr (fun t ht hW => ⟨⟨_, (c, f), rfl, Or.inr (Or.inl ⟨rfl, hXE, rfl⟩), by rw [ht]; exact hP, by rw [ht]; exact hPo⟩, hS.F ht⟩) hS.2.2 dL_credit_17
  · skip
    rw [ht9] at hP
    have hPo := oW_keep ho hPo hk9
    refine lv_i2l (v := rq.toInt64) hx hb dL_credit_7 rfl ?_
    have hPj : va_P en.1 vwCl (xw en ad cq ++ oW en o f) H := hP.app hPo
    refine va_last (ws := xw en ad cq ++ oW en o f) (a := o) hx hb hE.1 hPj (oW_D hI ho) hS 29 1 (n := 1) (f := f) (cA := en.2.2.1) rfl rfl (by unfold vp_in; decide) dL_credit_8 (fun H locs hPj _ hS => ?_)
    have hPj : va_P en.1 vwCl (xw en ad cq ++ oW en o (vp_updL f 0 (rq.toInt64))) H := hPj
    have hP := hPj.inl
    have hPo := hPj.inr
    refine lv_goto (tgt := 18) hx hb dL_credit_9 (by decide) ?_
    refine lv_iconst (v := 0) hx hb dL_credit_18 (by decide) ?_
    exact W.iret (v := 0) hx hb hr (fun t ht hW => ⟨⟨_, (cq, vp_updL f 0 (rq.toInt64)), rfl, Or.inr (Or.inr ⟨rfl, rq, hpo, (show vp_updL f 0 _ 0 = _ from pk_uLs)⟩), by rw [ht]; exact hP, by rw [ht]; exact hPo⟩, hS.F ht⟩) hS.2.2 dL_credit_19
set_option maxHeartbeats 4000000 in
set_option maxRecDepth 100000 in
/-- the law's own reaches -/
theorem lc_reaches (l : Launch) (hlt : l.stackTraces = false) (en : en_T) (ad : Nat → Nat) (c : Nat → Nat → Int32) (hI : xw_I ad) (o : Nat) (f : Nat → Int64) (ho : ∀ k, k < 29 → ad k ≠ o) (sz : Nat) {G : gr_T} (hc_ : ci G c) (v pI qI : Int32) : Met l yL_reaches wsL_reaches (rm_ 42 4 24) (wp_Pc en ad sz [.ref (ad 0), .int v, .int pI, .int qI, .ref o] (fun H => va_P en.1 vwCl (xw en ad c) H ∧ va_P en.1 vwCl (oW en o f) H)) (va_Qi (fun (r : Int32) (u : (Nat → Nat → Int32) × (Nat → Int64)) => (r = 1 ∧ ((fun E => (E = eA ∧ ¬ ((∃ j, j < gr_n G ∧ v = nI j) ∧ (-99 ≤ pI.toInt ∧ pI.toInt ≤ 99) ∧ 1 ≤ qI.toInt ∧ qI.toInt ≤ 9)) ∨ (E = eS ∧ ((∃ j, j < gr_n G ∧ v = nI j) ∧ (-99 ≤ pI.toInt ∧ pI.toInt ≤ 99) ∧ 1 ≤ qI.toInt ∧ qI.toInt ≤ 9) ∧ ¬ gr_cpl G)) eA) ∧ u.1 = c) ∨ (r = 2 ∧ ((fun E => (E = eA ∧ ¬ ((∃ j, j < gr_n G ∧ v = nI j) ∧ (-99 ≤ pI.toInt ∧ pI.toInt ≤ 99) ∧ 1 ≤ qI.toInt ∧ qI.toInt ≤ 9)) ∨ (E = eS ∧ ((∃ j, j < gr_n G ∧ v = nI j) ∧ (-99 ≤ pI.toInt ∧ pI.toInt ≤ 99) ∧ 1 ≤ qI.toInt ∧ qI.toInt ≤ 9) ∧ ¬ gr_cpl G)) eS) ∧ u.1 = c) ∨ (r = 0 ∧ ∃ r0 : Int32, ((fun r c' => gr_cpl G ∧ ((∃ j, j < gr_n G ∧ v = nI j) ∧ (-99 ≤ pI.toInt ∧ pI.toInt ≤ 99) ∧ 1 ≤ qI.toInt ∧ qI.toInt ≤ 9) ∧ (∃ j, j < gr_n G ∧ v = nI j ∧ r = if pI.toInt * 420 ≤ vl_F G j * qI.toInt then 1 else 0) ∧ ci G c') r0 u.1) ∧ (r0 = 0 → u.2 0 = 0) ∧ (¬ r0 = 0 → u.2 0 = 1))) (fun u t => va_P en.1 vwCl (xw en ad u.1) t.heap ∧ va_P en.1 vwCl (oW en o u.2) t.heap) (wA ad o sz)) 4 24 (wA ad o sz) := by
  refine va_MetW (cc := cL_reaches) (maxL := 6) (ret := (some .int)) (hh := [(0, 19, 22, 13), (0, 19, 26, 15)]) (by decide) rfl ?_
  intro p e s m args below meth co s₁ B hml hv
  obtain ⟨rfl, hE, ⟨hsz, hT, hN⟩, hP, hPo⟩ := hv
  subst hsz
  have hx := B.exec
  have hb := B.bytes
  have hr := B.returns
  have hts := atoms_spec (ws := wsL_reaches) B.pre
  have hown : s.vm.findClass RL = some m.cls := findClass_of_methodNamed B.named
  have hlocks := B.notSynchronized
  have htab := vx_table (x := yX4_init) B (hts _ List.mem_cons_self)
  have hS : va_S (wA ad o s.heap.size) s.heap s.heap [] := va_S.rf
  have hl := lv_entry ([.ref (ad 0), .int v, .int pI, .int qI, .ref o]) (n := 6) (Nat.le_of_ble_eq_true rfl)
  rw [lg_entry_eq]
  generalize (lg_sl ([.ref (ad 0), .int v, .int pI, .int qI, .ref o]) ++ List.replicate (6 - (lg_sl ([.ref (ad 0), .int v, .int pI, .int qI, .ref o])).length) Slot.unset).toArray = ls at hl ⊢
  have hl : lv_has ls 6 [(0, .ref (ad 0)), (1, .int v), (2, .int pI), (3, .int qI), (4, .ref o)] := hl
  refine lv_aload hx hb dL_reaches_0 (lv_at hl 4 rfl) ?_
  refine lv_iconst (v := 0) hx hb dL_reaches_2 (by decide) ?_
  refine lv_aload_n hx hb dL_reaches_3 rfl (lv_at hl 0 rfl) ?_
  refine lv_iload_n hx hb dL_reaches_4 rfl (lv_at hl 1 rfl) ?_
  refine lv_iload_n hx hb dL_reaches_5 rfl (lv_at hl 2 rfl) ?_
  refine lv_iload_n hx hb dL_reaches_6 rfl (lv_at hl 3 rfl) ?_
  refine vx_calli (vx_runV (As := [.int v, .int pI, .int qI]) (rest := [.int 0, .ref o]) ⟨hx, hb, hml, hown, hts⟩ (ct_reaches l hlt en ad c hI _ hc_ v pI qI) (cwV 3 hts gL_reaches_X4_reaches rfl rfl rfl (by decide +kernel) ⟨(Nat.le_of_ble_eq_true rfl), (Nat.le_of_ble_eq_true rfl)⟩) (tc_preV hE hT (va_recv hE.1 hP (ci := 4) (q0 := 0) rfl rfl) hP) rfl rfl hl.1 rfl (lv_room (Nat.le_of_ble_eq_true rfl)) dL_reaches_7 ⟨(Nat.le_of_ble_eq_true rfl), (Nat.le_of_ble_eq_true rfl)⟩) hS (fun q _ h => Or.inl h) (fun q h => Or.inl h) (fun q _ h => Or.inl h) (fun E9 ce q9 u9 t9 H locs ht9 _ _ hX9 hz9 hk9 hS hce hcv hcl => ?_) (fun rq cq t9 H locs ht9 _ hpo hP hz9 hk9 hS => ?_)
  · obtain ⟨hXE, hP⟩ := hX9
    rw [ht9] at hP
    have hPo := oW_keep ho hPo hk9
    have hEE : E9 = eA ∨ E9 = eS := by
      rcases hXE with q | q; exact Or.inl q.1; exact Or.inr q.1
    rcases hEE with rfl | rfl
    · skip
      refine vx_catch (name := eA) hown [] (⟨0, 19, 22, 13⟩ : ExceptionTableEntry) [(⟨0, 19, 26, 15⟩ : ExceptionTableEntry)] htab (fun z hz => absurd hz List.not_mem_nil) rfl (by decide) (hts (.classLink RL 13 eA) (by decide +kernel)) (va_Nw.use rfl (hT.1 (.castable eA eA) (by decide))) hce hcv hcl ?_
      refine W.eq (g2 := F0 m 22 ls [.ref q9]) rfl ?_
      refine lv_astore (lv' := [(5, .ref q9), (0, .ref (ad 0)), (1, .int v), (2, .int pI), (3, .int qI), (4, .ref o)]) hx hb dL_reaches_22 hl (by decide) rfl (fun ls hl => ?_)
      refine lv_iconst (v := 1) hx hb dL_reaches_24 (by decide) ?_
      exact W.iret (v := 1) hx hb hr (fun t ht hW => ⟨⟨_, (c, f), rfl, Or.inl ⟨rfl, hXE, rfl⟩, by rw [ht]; exact hP, by rw [ht]; exact hPo⟩, hS.F ht⟩) hS.2.2 dL_reaches_25
    · skip
      refine vx_catch (name := eS) hown [(⟨0, 19, 22, 13⟩ : ExceptionTableEntry)] (⟨0, 19, 26, 15⟩ : ExceptionTableEntry) [] htab (fun z hz => by rcases List.mem_singleton.mp hz with rfl; exact Or.inr ⟨by decide, eA, hts (.classLink RL 13 eA) (by decide +kernel), hN⟩) rfl (by decide) (hts (.classLink RL 15 eS) (by decide +kernel)) (va_Nw.use rfl (hT.1 (.castable eS eS) (by decide))) hce hcv hcl ?_
      refine W.eq (g2 := F0 m 26 ls [.ref q9]) rfl ?_
      refine lv_astore (lv' := [(5, .ref q9), (0, .ref (ad 0)), (1, .int v), (2, .int pI), (3, .int qI), (4, .ref o)]) hx hb dL_reaches_26 hl (by decide) rfl (fun ls hl => ?_)
      refine lv_iconst (v := 2) hx hb dL_reaches_28 (by decide) ?_
      exact W.iret (v := 2) hx hb hr (fun t ht hW => ⟨⟨_, (c, f), rfl, Or.inr (Or.inl ⟨rfl, hXE, rfl⟩), by rw [ht]; exact hP, by rw [ht]; exact hPo⟩, hS.F ht⟩) hS.2.2 dL_reaches_29
  · skip
    rw [ht9] at hP
    have hPo := oW_keep ho hPo hk9
    refine lv_if_eq (tgt := 17) hx hb dL_reaches_10 (by decide) (fun hbr => ?_) (fun hbr => ?_)
    · skip
      refine lv_lconst (v := 0) hx hb dL_reaches_17 (by decide) ?_
      have hPj : va_P en.1 vwCl (xw en ad cq ++ oW en o f) H := hP.app hPo
      refine va_last (ws := xw en ad cq ++ oW en o f) (a := o) hx hb hE.1 hPj (oW_D hI ho) hS 29 1 (n := 1) (f := f) (cA := en.2.2.1) rfl rfl (by unfold vp_in; decide) dL_reaches_18 (fun H locs hPj _ hS => ?_)
      have hPj : va_P en.1 vwCl (xw en ad cq ++ oW en o (vp_updL f 0 (0))) H := hPj
      have hP := hPj.inl
      have hPo := hPj.inr
      refine lv_goto (tgt := 30) hx hb dL_reaches_19 (by decide) ?_
      refine lv_iconst (v := 0) hx hb dL_reaches_30 (by decide) ?_
      exact W.iret (v := 0) hx hb hr (fun t ht hW => ⟨⟨_, (cq, vp_updL f 0 (0)), rfl, Or.inr (Or.inr ⟨rfl, rq, hpo, fun _ => (show vp_updL f 0 _ 0 = _ from pk_uLs), fun q => absurd hbr q⟩), by rw [ht]; exact hP, by rw [ht]; exact hPo⟩, hS.F ht⟩) hS.2.2 dL_reaches_31
    · skip
      refine lv_lconst (v := 1) hx hb dL_reaches_13 (by decide) ?_
      refine lv_goto (tgt := 18) hx hb dL_reaches_14 (by decide) ?_
      have hPj : va_P en.1 vwCl (xw en ad cq ++ oW en o f) H := hP.app hPo
      refine va_last (ws := xw en ad cq ++ oW en o f) (a := o) hx hb hE.1 hPj (oW_D hI ho) hS 29 1 (n := 1) (f := f) (cA := en.2.2.1) rfl rfl (by unfold vp_in; decide) dL_reaches_18 (fun H locs hPj _ hS => ?_)
      have hPj : va_P en.1 vwCl (xw en ad cq ++ oW en o (vp_updL f 0 (1))) H := hPj
      have hP := hPj.inl
      have hPo := hPj.inr
      refine lv_goto (tgt := 30) hx hb dL_reaches_19 (by decide) ?_
      refine lv_iconst (v := 0) hx hb dL_reaches_30 (by decide) ?_
      exact W.iret (v := 0) hx hb hr (fun t ht hW => ⟨⟨_, (cq, vp_updL f 0 (1)), rfl, Or.inr (Or.inr ⟨rfl, rq, hpo, fun q => absurd q hbr, fun _ => (show vp_updL f 0 _ 0 = _ from pk_uLs)⟩), by rw [ht]; exact hP, by rw [ht]; exact hPo⟩, hS.F ht⟩) hS.2.2 dL_reaches_31
set_option maxHeartbeats 4000000 in
set_option maxRecDepth 100000 in
/-- the law's own value -/
theorem lc_value (l : Launch) (hlt : l.stackTraces = false) (en : en_T) (ad : Nat → Nat) (c : Nat → Nat → Int32) (hI : xw_I ad) (o : Nat) (f : Nat → Int64) (ho : ∀ k, k < 29 → ad k ≠ o) (sz : Nat) {G : gr_T} (hc_ : ci G c) (v x : Int32) : Met l yL_value wsL_value (rm_ 42 4 24) (wp_Pc en ad sz [.ref (ad 0), .int v, .int x, .ref o] (fun H => va_P en.1 vwCl (xw en ad c) H ∧ va_P en.1 vwCl (oW en o f) H)) (va_Qi (fun (r : Int32) (u : (Nat → Nat → Int32) × (Nat → Int64)) => (r = 1 ∧ ((fun E => (E = eA ∧ ¬ (∃ j, j < gr_n G ∧ v = nI j)) ∨ (E = eS ∧ (∃ j, j < gr_n G ∧ v = nI j) ∧ ¬ gr_cpl G)) eA) ∧ u.1 = c) ∨ (r = 2 ∧ ((fun E => (E = eA ∧ ¬ (∃ j, j < gr_n G ∧ v = nI j)) ∨ (E = eS ∧ (∃ j, j < gr_n G ∧ v = nI j) ∧ ¬ gr_cpl G)) eS) ∧ u.1 = c) ∨ (r = 0 ∧ ∃ r0 : Int32, ((fun r c' => gr_cpl G ∧ (∃ j, j < gr_n G ∧ v = nI j ∧ (¬ x = 0 → r = nI (vl_q (vl_F G j))) ∧ (x = 0 → r.toInt = vl_t (vl_F G j))) ∧ ci G c') r0 u.1) ∧ u.2 0 = r0.toInt64)) (fun u t => va_P en.1 vwCl (xw en ad u.1) t.heap ∧ va_P en.1 vwCl (oW en o u.2) t.heap) (wA ad o sz)) 4 24 (wA ad o sz) := by
  refine va_MetW (cc := cL_value) (maxL := 5) (ret := (some .int)) (hh := [(0, 10, 13, 13), (0, 10, 17, 15)]) (by decide) rfl ?_
  intro p e s m args below meth co s₁ B hml hv
  obtain ⟨rfl, hE, ⟨hsz, hT, hN⟩, hP, hPo⟩ := hv
  subst hsz
  have hx := B.exec
  have hb := B.bytes
  have hr := B.returns
  have hts := atoms_spec (ws := wsL_value) B.pre
  have hown : s.vm.findClass RL = some m.cls := findClass_of_methodNamed B.named
  have hlocks := B.notSynchronized
  have htab := vx_table (x := yX4_init) B (hts _ List.mem_cons_self)
  have hS : va_S (wA ad o s.heap.size) s.heap s.heap [] := va_S.rf
  have hl := lv_entry ([.ref (ad 0), .int v, .int x, .ref o]) (n := 5) (Nat.le_of_ble_eq_true rfl)
  rw [lg_entry_eq]
  generalize (lg_sl ([.ref (ad 0), .int v, .int x, .ref o]) ++ List.replicate (5 - (lg_sl ([.ref (ad 0), .int v, .int x, .ref o])).length) Slot.unset).toArray = ls at hl ⊢
  have hl : lv_has ls 5 [(0, .ref (ad 0)), (1, .int v), (2, .int x), (3, .ref o)] := hl
  refine lv_aload_n hx hb dL_value_0 rfl (lv_at hl 3 rfl) ?_
  refine lv_iconst (v := 0) hx hb dL_value_1 (by decide) ?_
  refine lv_aload_n hx hb dL_value_2 rfl (lv_at hl 0 rfl) ?_
  refine lv_iload_n hx hb dL_value_3 rfl (lv_at hl 1 rfl) ?_
  refine lv_iload_n hx hb dL_value_4 rfl (lv_at hl 2 rfl) ?_
  refine vx_calli (vx_runV (As := [.int v, .int x]) (rest := [.int 0, .ref o]) ⟨hx, hb, hml, hown, hts⟩ (ct_value l hlt en ad c hI _ hc_ v x) (cwV 2 hts gL_value_X4_value rfl rfl rfl (by decide +kernel) ⟨(Nat.le_of_ble_eq_true rfl), (Nat.le_of_ble_eq_true rfl)⟩) (tc_preV hE hT (va_recv hE.1 hP (ci := 4) (q0 := 0) rfl rfl) hP) rfl rfl hl.1 rfl (lv_room (Nat.le_of_ble_eq_true rfl)) dL_value_5 ⟨(Nat.le_of_ble_eq_true rfl), (Nat.le_of_ble_eq_true rfl)⟩) hS (fun q _ h => Or.inl h) (fun q h => Or.inl h) (fun q _ h => Or.inl h) (fun E9 ce q9 u9 t9 H locs ht9 _ _ hX9 hz9 hk9 hS hce hcv hcl => ?_) (fun rq cq t9 H locs ht9 _ hpo hP hz9 hk9 hS => ?_)
  · obtain ⟨hXE, hP⟩ := hX9
    rw [ht9] at hP
    have hPo := oW_keep ho hPo hk9
    have hEE : E9 = eA ∨ E9 = eS := by
      rcases hXE with q | q; exact Or.inl q.1; exact Or.inr q.1
    rcases hEE with rfl | rfl
    · skip
      refine vx_catch (name := eA) hown [] (⟨0, 10, 13, 13⟩ : ExceptionTableEntry) [(⟨0, 10, 17, 15⟩ : ExceptionTableEntry)] htab (fun z hz => absurd hz List.not_mem_nil) rfl (by decide) (hts (.classLink RL 13 eA) (by decide +kernel)) (va_Nw.use rfl (hT.1 (.castable eA eA) (by decide))) hce hcv hcl ?_
      refine W.eq (g2 := F0 m 13 ls [.ref q9]) rfl ?_
      refine lv_astore (lv' := [(4, .ref q9), (0, .ref (ad 0)), (1, .int v), (2, .int x), (3, .ref o)]) hx hb dL_value_13 hl (by decide) rfl (fun ls hl => ?_)
      refine lv_iconst (v := 1) hx hb dL_value_15 (by decide) ?_
      exact W.iret (v := 1) hx hb hr (fun t ht hW => ⟨⟨_, (c, f), rfl, Or.inl ⟨rfl, hXE, rfl⟩, by rw [ht]; exact hP, by rw [ht]; exact hPo⟩, hS.F ht⟩) hS.2.2 dL_value_16
    · skip
      refine vx_catch (name := eS) hown [(⟨0, 10, 13, 13⟩ : ExceptionTableEntry)] (⟨0, 10, 17, 15⟩ : ExceptionTableEntry) [] htab (fun z hz => by rcases List.mem_singleton.mp hz with rfl; exact Or.inr ⟨by decide, eA, hts (.classLink RL 13 eA) (by decide +kernel), hN⟩) rfl (by decide) (hts (.classLink RL 15 eS) (by decide +kernel)) (va_Nw.use rfl (hT.1 (.castable eS eS) (by decide))) hce hcv hcl ?_
      refine W.eq (g2 := F0 m 17 ls [.ref q9]) rfl ?_
      refine lv_astore (lv' := [(4, .ref q9), (0, .ref (ad 0)), (1, .int v), (2, .int x), (3, .ref o)]) hx hb dL_value_17 hl (by decide) rfl (fun ls hl => ?_)
      refine lv_iconst (v := 2) hx hb dL_value_19 (by decide) ?_
      exact W.iret (v := 2) hx hb hr (fun t ht hW => ⟨⟨_, (c, f), rfl, Or.inr (Or.inl ⟨rfl, hXE, rfl⟩), by rw [ht]; exact hP, by rw [ht]; exact hPo⟩, hS.F ht⟩) hS.2.2 dL_value_20
  · skip
    rw [ht9] at hP
    have hPo := oW_keep ho hPo hk9
    refine lv_i2l (v := rq.toInt64) hx hb dL_value_8 rfl ?_
    have hPj : va_P en.1 vwCl (xw en ad cq ++ oW en o f) H := hP.app hPo
    refine va_last (ws := xw en ad cq ++ oW en o f) (a := o) hx hb hE.1 hPj (oW_D hI ho) hS 29 1 (n := 1) (f := f) (cA := en.2.2.1) rfl rfl (by unfold vp_in; decide) dL_value_9 (fun H locs hPj _ hS => ?_)
    have hPj : va_P en.1 vwCl (xw en ad cq ++ oW en o (vp_updL f 0 (rq.toInt64))) H := hPj
    have hP := hPj.inl
    have hPo := hPj.inr
    refine lv_goto (tgt := 21) hx hb dL_value_10 (by decide) ?_
    refine lv_iconst (v := 0) hx hb dL_value_21 (by decide) ?_
    exact W.iret (v := 0) hx hb hr (fun t ht hW => ⟨⟨_, (cq, vp_updL f 0 (rq.toInt64)), rfl, Or.inr (Or.inr ⟨rfl, rq, hpo, (show vp_updL f 0 _ 0 = _ from pk_uLs)⟩), by rw [ht]; exact hP, by rw [ht]; exact hPo⟩, hS.F ht⟩) hS.2.2 dL_value_22
set_option maxHeartbeats 4000000 in
set_option maxRecDepth 100000 in
/-- the law's own best -/
theorem lc_best (l : Launch) (hlt : l.stackTraces = false) (en : en_T) (ad : Nat → Nat) (c : Nat → Nat → Int32) (hI : xw_I ad) (o : Nat) (f : Nat → Int64) (ho : ∀ k, k < 29 → ad k ≠ o) (sz : Nat) {G : gr_T} (hc_ : ci G c) (v : Int32) : Met l yL_best wsL_best (rm_ 42 4 24) (wp_Pc en ad sz [.ref (ad 0), .int v, .ref o] (fun H => va_P en.1 vwCl (xw en ad c) H ∧ va_P en.1 vwCl (oW en o f) H)) (va_Qi (fun (r : Int32) (u : (Nat → Nat → Int32) × (Nat → Int64)) => (r = 1 ∧ ((fun E => (E = eA ∧ ¬ (∃ j, j < gr_n G ∧ v = nI j)) ∨ (E = eS ∧ (∃ j, j < gr_n G ∧ v = nI j) ∧ ¬ gr_cpl G)) eA) ∧ u.1 = c) ∨ (r = 2 ∧ ((fun E => (E = eA ∧ ¬ (∃ j, j < gr_n G ∧ v = nI j)) ∨ (E = eS ∧ (∃ j, j < gr_n G ∧ v = nI j) ∧ ¬ gr_cpl G)) eS) ∧ u.1 = c) ∨ (r = 0 ∧ ∃ r0 : Int32, ((fun r c' => gr_cpl G ∧ (∃ j, j < gr_n G ∧ v = nI j ∧ r = nI (gr_best G j)) ∧ ci G c') r0 u.1) ∧ u.2 0 = r0.toInt64)) (fun u t => va_P en.1 vwCl (xw en ad u.1) t.heap ∧ va_P en.1 vwCl (oW en o u.2) t.heap) (wA ad o sz)) 4 24 (wA ad o sz) := by
  refine va_MetW (cc := cL_best) (maxL := 4) (ret := (some .int)) (hh := [(0, 9, 12, 13), (0, 9, 15, 15)]) (by decide) rfl ?_
  intro p e s m args below meth co s₁ B hml hv
  obtain ⟨rfl, hE, ⟨hsz, hT, hN⟩, hP, hPo⟩ := hv
  subst hsz
  have hx := B.exec
  have hb := B.bytes
  have hr := B.returns
  have hts := atoms_spec (ws := wsL_best) B.pre
  have hown : s.vm.findClass RL = some m.cls := findClass_of_methodNamed B.named
  have hlocks := B.notSynchronized
  have htab := vx_table (x := yX4_init) B (hts _ List.mem_cons_self)
  have hS : va_S (wA ad o s.heap.size) s.heap s.heap [] := va_S.rf
  have hl := lv_entry ([.ref (ad 0), .int v, .ref o]) (n := 4) (Nat.le_of_ble_eq_true rfl)
  rw [lg_entry_eq]
  generalize (lg_sl ([.ref (ad 0), .int v, .ref o]) ++ List.replicate (4 - (lg_sl ([.ref (ad 0), .int v, .ref o])).length) Slot.unset).toArray = ls at hl ⊢
  have hl : lv_has ls 4 [(0, .ref (ad 0)), (1, .int v), (2, .ref o)] := hl
  refine lv_aload_n hx hb dL_best_0 rfl (lv_at hl 2 rfl) ?_
  refine lv_iconst (v := 0) hx hb dL_best_1 (by decide) ?_
  refine lv_aload_n hx hb dL_best_2 rfl (lv_at hl 0 rfl) ?_
  refine lv_iload_n hx hb dL_best_3 rfl (lv_at hl 1 rfl) ?_
  refine vx_calli (vx_runV (As := [.int v]) (rest := [.int 0, .ref o]) ⟨hx, hb, hml, hown, hts⟩ (ct_best l hlt en ad c hI _ hc_ v) (cwV 1 hts gL_best_X4_best rfl rfl rfl (by decide +kernel) ⟨(Nat.le_of_ble_eq_true rfl), (Nat.le_of_ble_eq_true rfl)⟩) (tc_preV hE hT (va_recv hE.1 hP (ci := 4) (q0 := 0) rfl rfl) hP) rfl rfl hl.1 rfl (lv_room (Nat.le_of_ble_eq_true rfl)) dL_best_4 ⟨(Nat.le_of_ble_eq_true rfl), (Nat.le_of_ble_eq_true rfl)⟩) hS (fun q _ h => Or.inl h) (fun q h => Or.inl h) (fun q _ h => Or.inl h) (fun E9 ce q9 u9 t9 H locs ht9 _ _ hX9 hz9 hk9 hS hce hcv hcl => ?_) (fun rq cq t9 H locs ht9 _ hpo hP hz9 hk9 hS => ?_)
  · obtain ⟨hXE, hP⟩ := hX9
    rw [ht9] at hP
    have hPo := oW_keep ho hPo hk9
    have hEE : E9 = eA ∨ E9 = eS := by
      rcases hXE with q | q; exact Or.inl q.1; exact Or.inr q.1
    rcases hEE with rfl | rfl
    · skip
      refine vx_catch (name := eA) hown [] (⟨0, 9, 12, 13⟩ : ExceptionTableEntry) [(⟨0, 9, 15, 15⟩ : ExceptionTableEntry)] htab (fun z hz => absurd hz List.not_mem_nil) rfl (by decide) (hts (.classLink RL 13 eA) (by decide +kernel)) (va_Nw.use rfl (hT.1 (.castable eA eA) (by decide))) hce hcv hcl ?_
      refine W.eq (g2 := F0 m 12 ls [.ref q9]) rfl ?_
      refine lv_astore_n (lv' := [(3, .ref q9), (0, .ref (ad 0)), (1, .int v), (2, .ref o)]) hx hb dL_best_12 rfl hl (by decide) rfl (fun ls hl => ?_)
      refine lv_iconst (v := 1) hx hb dL_best_13 (by decide) ?_
      exact W.iret (v := 1) hx hb hr (fun t ht hW => ⟨⟨_, (c, f), rfl, Or.inl ⟨rfl, hXE, rfl⟩, by rw [ht]; exact hP, by rw [ht]; exact hPo⟩, hS.F ht⟩) hS.2.2 dL_best_14
    · skip
      refine vx_catch (name := eS) hown [(⟨0, 9, 12, 13⟩ : ExceptionTableEntry)] (⟨0, 9, 15, 15⟩ : ExceptionTableEntry) [] htab (fun z hz => by rcases List.mem_singleton.mp hz with rfl; exact Or.inr ⟨by decide, eA, hts (.classLink RL 13 eA) (by decide +kernel), hN⟩) rfl (by decide) (hts (.classLink RL 15 eS) (by decide +kernel)) (va_Nw.use rfl (hT.1 (.castable eS eS) (by decide))) hce hcv hcl ?_
      refine W.eq (g2 := F0 m 15 ls [.ref q9]) rfl ?_
      refine lv_astore_n (lv' := [(3, .ref q9), (0, .ref (ad 0)), (1, .int v), (2, .ref o)]) hx hb dL_best_15 rfl hl (by decide) rfl (fun ls hl => ?_)
      refine lv_iconst (v := 2) hx hb dL_best_16 (by decide) ?_
      exact W.iret (v := 2) hx hb hr (fun t ht hW => ⟨⟨_, (c, f), rfl, Or.inr (Or.inl ⟨rfl, hXE, rfl⟩), by rw [ht]; exact hP, by rw [ht]; exact hPo⟩, hS.F ht⟩) hS.2.2 dL_best_17
  · skip
    rw [ht9] at hP
    have hPo := oW_keep ho hPo hk9
    refine lv_i2l (v := rq.toInt64) hx hb dL_best_7 rfl ?_
    have hPj : va_P en.1 vwCl (xw en ad cq ++ oW en o f) H := hP.app hPo
    refine va_last (ws := xw en ad cq ++ oW en o f) (a := o) hx hb hE.1 hPj (oW_D hI ho) hS 29 1 (n := 1) (f := f) (cA := en.2.2.1) rfl rfl (by unfold vp_in; decide) dL_best_8 (fun H locs hPj _ hS => ?_)
    have hPj : va_P en.1 vwCl (xw en ad cq ++ oW en o (vp_updL f 0 (rq.toInt64))) H := hPj
    have hP := hPj.inl
    have hPo := hPj.inr
    refine lv_goto (tgt := 18) hx hb dL_best_9 (by decide) ?_
    refine lv_iconst (v := 0) hx hb dL_best_18 (by decide) ?_
    exact W.iret (v := 0) hx hb hr (fun t ht hW => ⟨⟨_, (cq, vp_updL f 0 (rq.toInt64)), rfl, Or.inr (Or.inr ⟨rfl, rq, hpo, (show vp_updL f 0 _ 0 = _ from pk_uLs)⟩), by rw [ht]; exact hP, by rw [ht]; exact hPo⟩, hS.F ht⟩) hS.2.2 dL_best_19
set_option maxHeartbeats 4000000 in
set_option maxRecDepth 100000 in
/-- the law's own settle -/
theorem lc_settle (l : Launch) (hlt : l.stackTraces = false) (en : en_T) (ad : Nat → Nat) (c : Nat → Nat → Int32) (hI : xw_I ad) (o : Nat) (f : Nat → Int64) (ho : ∀ k, k < 29 → ad k ≠ o) (sz : Nat) {G : gr_T} (hc_ : ci G c) (x : Int32) : Met l yL_settle wsL_settle (rm_ 42 4 24) (wp_Pc en ad sz [.ref (ad 0), .int x, .ref o] (fun H => va_P en.1 vwCl (xw en ad c) H ∧ va_P en.1 vwCl (oW en o f) H)) (va_Qi (fun (r : Int32) (u : (Nat → Nat → Int32) × (Nat → Int64)) => (r = 1 ∧ ((fun E => (E = eA ∧ ¬ (x = 0 ∨ x = 1)) ∨ (E = eS ∧ (x = 0 ∨ x = 1) ∧ ¬ gr_cpl G)) eA) ∧ u.1 = c) ∨ (r = 2 ∧ ((fun E => (E = eA ∧ ¬ (x = 0 ∨ x = 1)) ∨ (E = eS ∧ (x = 0 ∨ x = 1) ∧ ¬ gr_cpl G)) eS) ∧ u.1 = c) ∨ (r = 0 ∧ ∃ r0 : Int32, ((fun r c' => gr_cpl G ∧ (∃ pl, pl < 2 ∧ x = nI pl ∧ r = nI (gr_cn G pl 7) ∧ ci (gr_st G pl 7) c')) r0 u.1) ∧ u.2 0 = r0.toInt64)) (fun u t => va_P en.1 vwCl (xw en ad u.1) t.heap ∧ va_P en.1 vwCl (oW en o u.2) t.heap) (wA ad o sz)) 4 24 (wA ad o sz) := by
  refine va_MetW (cc := cL_settle) (maxL := 4) (ret := (some .int)) (hh := [(0, 9, 12, 13), (0, 9, 15, 15)]) (by decide) rfl ?_
  intro p e s m args below meth co s₁ B hml hv
  obtain ⟨rfl, hE, ⟨hsz, hT, hN⟩, hP, hPo⟩ := hv
  subst hsz
  have hx := B.exec
  have hb := B.bytes
  have hr := B.returns
  have hts := atoms_spec (ws := wsL_settle) B.pre
  have hown : s.vm.findClass RL = some m.cls := findClass_of_methodNamed B.named
  have hlocks := B.notSynchronized
  have htab := vx_table (x := yX4_init) B (hts _ List.mem_cons_self)
  have hS : va_S (wA ad o s.heap.size) s.heap s.heap [] := va_S.rf
  have hl := lv_entry ([.ref (ad 0), .int x, .ref o]) (n := 4) (Nat.le_of_ble_eq_true rfl)
  rw [lg_entry_eq]
  generalize (lg_sl ([.ref (ad 0), .int x, .ref o]) ++ List.replicate (4 - (lg_sl ([.ref (ad 0), .int x, .ref o])).length) Slot.unset).toArray = ls at hl ⊢
  have hl : lv_has ls 4 [(0, .ref (ad 0)), (1, .int x), (2, .ref o)] := hl
  refine lv_aload_n hx hb dL_settle_0 rfl (lv_at hl 2 rfl) ?_
  refine lv_iconst (v := 0) hx hb dL_settle_1 (by decide) ?_
  refine lv_aload_n hx hb dL_settle_2 rfl (lv_at hl 0 rfl) ?_
  refine lv_iload_n hx hb dL_settle_3 rfl (lv_at hl 1 rfl) ?_
  refine vx_calli (vx_runV (As := [.int x]) (rest := [.int 0, .ref o]) ⟨hx, hb, hml, hown, hts⟩ (ct_settle l hlt en ad c hI _ hc_ x) (cwV 1 hts gL_settle_X4_settle rfl rfl rfl (by decide +kernel) ⟨(Nat.le_of_ble_eq_true rfl), (Nat.le_of_ble_eq_true rfl)⟩) (tc_preV hE hT (va_recv hE.1 hP (ci := 4) (q0 := 0) rfl rfl) hP) rfl rfl hl.1 rfl (lv_room (Nat.le_of_ble_eq_true rfl)) dL_settle_4 ⟨(Nat.le_of_ble_eq_true rfl), (Nat.le_of_ble_eq_true rfl)⟩) hS (fun q _ h => Or.inl h) (fun q h => Or.inl h) (fun q _ h => Or.inl h) (fun E9 ce q9 u9 t9 H locs ht9 _ _ hX9 hz9 hk9 hS hce hcv hcl => ?_) (fun rq cq t9 H locs ht9 _ hpo hP hz9 hk9 hS => ?_)
  · obtain ⟨hXE, hP⟩ := hX9
    rw [ht9] at hP
    have hPo := oW_keep ho hPo hk9
    have hEE : E9 = eA ∨ E9 = eS := by
      rcases hXE with q | q; exact Or.inl q.1; exact Or.inr q.1
    rcases hEE with rfl | rfl
    · skip
      refine vx_catch (name := eA) hown [] (⟨0, 9, 12, 13⟩ : ExceptionTableEntry) [(⟨0, 9, 15, 15⟩ : ExceptionTableEntry)] htab (fun z hz => absurd hz List.not_mem_nil) rfl (by decide) (hts (.classLink RL 13 eA) (by decide +kernel)) (va_Nw.use rfl (hT.1 (.castable eA eA) (by decide))) hce hcv hcl ?_
      refine W.eq (g2 := F0 m 12 ls [.ref q9]) rfl ?_
      refine lv_astore_n (lv' := [(3, .ref q9), (0, .ref (ad 0)), (1, .int x), (2, .ref o)]) hx hb dL_settle_12 rfl hl (by decide) rfl (fun ls hl => ?_)
      refine lv_iconst (v := 1) hx hb dL_settle_13 (by decide) ?_
      exact W.iret (v := 1) hx hb hr (fun t ht hW => ⟨⟨_, (c, f), rfl, Or.inl ⟨rfl, hXE, rfl⟩, by rw [ht]; exact hP, by rw [ht]; exact hPo⟩, hS.F ht⟩) hS.2.2 dL_settle_14
    · skip
      refine vx_catch (name := eS) hown [(⟨0, 9, 12, 13⟩ : ExceptionTableEntry)] (⟨0, 9, 15, 15⟩ : ExceptionTableEntry) [] htab (fun z hz => by rcases List.mem_singleton.mp hz with rfl; exact Or.inr ⟨by decide, eA, hts (.classLink RL 13 eA) (by decide +kernel), hN⟩) rfl (by decide) (hts (.classLink RL 15 eS) (by decide +kernel)) (va_Nw.use rfl (hT.1 (.castable eS eS) (by decide))) hce hcv hcl ?_
      refine W.eq (g2 := F0 m 15 ls [.ref q9]) rfl ?_
      refine lv_astore_n (lv' := [(3, .ref q9), (0, .ref (ad 0)), (1, .int x), (2, .ref o)]) hx hb dL_settle_15 rfl hl (by decide) rfl (fun ls hl => ?_)
      refine lv_iconst (v := 2) hx hb dL_settle_16 (by decide) ?_
      exact W.iret (v := 2) hx hb hr (fun t ht hW => ⟨⟨_, (c, f), rfl, Or.inr (Or.inl ⟨rfl, hXE, rfl⟩), by rw [ht]; exact hP, by rw [ht]; exact hPo⟩, hS.F ht⟩) hS.2.2 dL_settle_17
  · skip
    rw [ht9] at hP
    have hPo := oW_keep ho hPo hk9
    refine lv_i2l (v := rq.toInt64) hx hb dL_settle_7 rfl ?_
    have hPj : va_P en.1 vwCl (xw en ad cq ++ oW en o f) H := hP.app hPo
    refine va_last (ws := xw en ad cq ++ oW en o f) (a := o) hx hb hE.1 hPj (oW_D hI ho) hS 29 1 (n := 1) (f := f) (cA := en.2.2.1) rfl rfl (by unfold vp_in; decide) dL_settle_8 (fun H locs hPj _ hS => ?_)
    have hPj : va_P en.1 vwCl (xw en ad cq ++ oW en o (vp_updL f 0 (rq.toInt64))) H := hPj
    have hP := hPj.inl
    have hPo := hPj.inr
    refine lv_goto (tgt := 18) hx hb dL_settle_9 (by decide) ?_
    refine lv_iconst (v := 0) hx hb dL_settle_18 (by decide) ?_
    exact W.iret (v := 0) hx hb hr (fun t ht hW => ⟨⟨_, (cq, vp_updL f 0 (rq.toInt64)), rfl, Or.inr (Or.inr ⟨rfl, rq, hpo, (show vp_updL f 0 _ 0 = _ from pk_uLs)⟩), by rw [ht]; exact hP, by rw [ht]; exact hPo⟩, hS.F ht⟩) hS.2.2 dL_settle_19
set_option maxHeartbeats 4000000 in
set_option maxRecDepth 100000 in
/-- the law's own walk -/
theorem lc_walk (l : Launch) (hlt : l.stackTraces = false) (en : en_T) (ad : Nat → Nat) (c : Nat → Nat → Int32) (hI : xw_I ad) (o : Nat) (f : Nat → Int64) (ho : ∀ k, k < 29 → ad k ≠ o) (sz : Nat) {G : gr_T} (hc_ : ci G c) (v x : Int32) : Met l yL_walk wsL_walk (rm_ 42 4 24) (wp_Pc en ad sz [.ref (ad 0), .int v, .int x, .ref o] (fun H => va_P en.1 vwCl (xw en ad c) H ∧ va_P en.1 vwCl (oW en o f) H)) (va_Qi (fun (r : Int32) (u : (Nat → Nat → Int32) × (Nat → Int64)) => (r = 1 ∧ ((fun E => (E = eA ∧ ¬ ((∃ j, j < gr_n G ∧ v = nI j) ∧ ∃ wh, wh < 4 ∧ x = nI wh)) ∨ (E = eS ∧ ((∃ j, j < gr_n G ∧ v = nI j) ∧ ∃ wh, wh < 4 ∧ x = nI wh) ∧ ¬ gr_cpl G)) eA) ∧ u.1 = c) ∨ (r = 2 ∧ ((fun E => (E = eA ∧ ¬ ((∃ j, j < gr_n G ∧ v = nI j) ∧ ∃ wh, wh < 4 ∧ x = nI wh)) ∨ (E = eS ∧ ((∃ j, j < gr_n G ∧ v = nI j) ∧ ∃ wh, wh < 4 ∧ x = nI wh) ∧ ¬ gr_cpl G)) eS) ∧ u.1 = c) ∨ (r = 0 ∧ ∃ r0 : Int32, ((fun r c' => gr_cpl G ∧ (∃ j wh, j < gr_n G ∧ v = nI j ∧ wh < 4 ∧ x = nI wh ∧ gr_wr G j wh r) ∧ ci G c') r0 u.1) ∧ u.2 0 = r0.toInt64)) (fun u t => va_P en.1 vwCl (xw en ad u.1) t.heap ∧ va_P en.1 vwCl (oW en o u.2) t.heap) (wA ad o sz)) 4 24 (wA ad o sz) := by
  refine va_MetW (cc := cL_walk) (maxL := 5) (ret := (some .int)) (hh := [(0, 10, 13, 13), (0, 10, 17, 15)]) (by decide) rfl ?_
  intro p e s m args below meth co s₁ B hml hv
  obtain ⟨rfl, hE, ⟨hsz, hT, hN⟩, hP, hPo⟩ := hv
  subst hsz
  have hx := B.exec
  have hb := B.bytes
  have hr := B.returns
  have hts := atoms_spec (ws := wsL_walk) B.pre
  have hown : s.vm.findClass RL = some m.cls := findClass_of_methodNamed B.named
  have hlocks := B.notSynchronized
  have htab := vx_table (x := yX4_init) B (hts _ List.mem_cons_self)
  have hS : va_S (wA ad o s.heap.size) s.heap s.heap [] := va_S.rf
  have hl := lv_entry ([.ref (ad 0), .int v, .int x, .ref o]) (n := 5) (Nat.le_of_ble_eq_true rfl)
  rw [lg_entry_eq]
  generalize (lg_sl ([.ref (ad 0), .int v, .int x, .ref o]) ++ List.replicate (5 - (lg_sl ([.ref (ad 0), .int v, .int x, .ref o])).length) Slot.unset).toArray = ls at hl ⊢
  have hl : lv_has ls 5 [(0, .ref (ad 0)), (1, .int v), (2, .int x), (3, .ref o)] := hl
  refine lv_aload_n hx hb dL_walk_0 rfl (lv_at hl 3 rfl) ?_
  refine lv_iconst (v := 0) hx hb dL_walk_1 (by decide) ?_
  refine lv_aload_n hx hb dL_walk_2 rfl (lv_at hl 0 rfl) ?_
  refine lv_iload_n hx hb dL_walk_3 rfl (lv_at hl 1 rfl) ?_
  refine lv_iload_n hx hb dL_walk_4 rfl (lv_at hl 2 rfl) ?_
  refine vx_calli (vx_runV (As := [.int v, .int x]) (rest := [.int 0, .ref o]) ⟨hx, hb, hml, hown, hts⟩ (ct_walk l hlt en ad c hI _ hc_ v x) (cwV 2 hts gL_walk_X4_walk rfl rfl rfl (by decide +kernel) ⟨(Nat.le_of_ble_eq_true rfl), (Nat.le_of_ble_eq_true rfl)⟩) (tc_preV hE hT (va_recv hE.1 hP (ci := 4) (q0 := 0) rfl rfl) hP) rfl rfl hl.1 rfl (lv_room (Nat.le_of_ble_eq_true rfl)) dL_walk_5 ⟨(Nat.le_of_ble_eq_true rfl), (Nat.le_of_ble_eq_true rfl)⟩) hS (fun q _ h => Or.inl h) (fun q h => Or.inl h) (fun q _ h => Or.inl h) (fun E9 ce q9 u9 t9 H locs ht9 _ _ hX9 hz9 hk9 hS hce hcv hcl => ?_) (fun rq cq t9 H locs ht9 _ hpo hP hz9 hk9 hS => ?_)
  · obtain ⟨hXE, hP⟩ := hX9
    rw [ht9] at hP
    have hPo := oW_keep ho hPo hk9
    have hEE : E9 = eA ∨ E9 = eS := by
      rcases hXE with q | q; exact Or.inl q.1; exact Or.inr q.1
    rcases hEE with rfl | rfl
    · skip
      refine vx_catch (name := eA) hown [] (⟨0, 10, 13, 13⟩ : ExceptionTableEntry) [(⟨0, 10, 17, 15⟩ : ExceptionTableEntry)] htab (fun z hz => absurd hz List.not_mem_nil) rfl (by decide) (hts (.classLink RL 13 eA) (by decide +kernel)) (va_Nw.use rfl (hT.1 (.castable eA eA) (by decide))) hce hcv hcl ?_
      refine W.eq (g2 := F0 m 13 ls [.ref q9]) rfl ?_
      refine lv_astore (lv' := [(4, .ref q9), (0, .ref (ad 0)), (1, .int v), (2, .int x), (3, .ref o)]) hx hb dL_walk_13 hl (by decide) rfl (fun ls hl => ?_)
      refine lv_iconst (v := 1) hx hb dL_walk_15 (by decide) ?_
      exact W.iret (v := 1) hx hb hr (fun t ht hW => ⟨⟨_, (c, f), rfl, Or.inl ⟨rfl, hXE, rfl⟩, by rw [ht]; exact hP, by rw [ht]; exact hPo⟩, hS.F ht⟩) hS.2.2 dL_walk_16
    · skip
      refine vx_catch (name := eS) hown [(⟨0, 10, 13, 13⟩ : ExceptionTableEntry)] (⟨0, 10, 17, 15⟩ : ExceptionTableEntry) [] htab (fun z hz => by rcases List.mem_singleton.mp hz with rfl; exact Or.inr ⟨by decide, eA, hts (.classLink RL 13 eA) (by decide +kernel), hN⟩) rfl (by decide) (hts (.classLink RL 15 eS) (by decide +kernel)) (va_Nw.use rfl (hT.1 (.castable eS eS) (by decide))) hce hcv hcl ?_
      refine W.eq (g2 := F0 m 17 ls [.ref q9]) rfl ?_
      refine lv_astore (lv' := [(4, .ref q9), (0, .ref (ad 0)), (1, .int v), (2, .int x), (3, .ref o)]) hx hb dL_walk_17 hl (by decide) rfl (fun ls hl => ?_)
      refine lv_iconst (v := 2) hx hb dL_walk_19 (by decide) ?_
      exact W.iret (v := 2) hx hb hr (fun t ht hW => ⟨⟨_, (c, f), rfl, Or.inr (Or.inl ⟨rfl, hXE, rfl⟩), by rw [ht]; exact hP, by rw [ht]; exact hPo⟩, hS.F ht⟩) hS.2.2 dL_walk_20
  · skip
    rw [ht9] at hP
    have hPo := oW_keep ho hPo hk9
    refine lv_i2l (v := rq.toInt64) hx hb dL_walk_8 rfl ?_
    have hPj : va_P en.1 vwCl (xw en ad cq ++ oW en o f) H := hP.app hPo
    refine va_last (ws := xw en ad cq ++ oW en o f) (a := o) hx hb hE.1 hPj (oW_D hI ho) hS 29 1 (n := 1) (f := f) (cA := en.2.2.1) rfl rfl (by unfold vp_in; decide) dL_walk_9 (fun H locs hPj _ hS => ?_)
    have hPj : va_P en.1 vwCl (xw en ad cq ++ oW en o (vp_updL f 0 (rq.toInt64))) H := hPj
    have hP := hPj.inl
    have hPo := hPj.inr
    refine lv_goto (tgt := 21) hx hb dL_walk_10 (by decide) ?_
    refine lv_iconst (v := 0) hx hb dL_walk_21 (by decide) ?_
    exact W.iret (v := 0) hx hb hr (fun t ht hW => ⟨⟨_, (cq, vp_updL f 0 (rq.toInt64)), rfl, Or.inr (Or.inr ⟨rfl, rq, hpo, (show vp_updL f 0 _ 0 = _ from pk_uLs)⟩), by rw [ht]; exact hP, by rw [ht]; exact hPo⟩, hS.F ht⟩) hS.2.2 dL_walk_22
