/-! ===== CreditGameModel: the graph, refusals ===== -/
/-- the reference's cells hold the graph -/
def mi (G : gr_T) (d : mT) : Prop :=
  gf_ok G ∧ d.1 0 1 = nI (gr_n G) ∧ d.1 0 2 = nI (gr_E G) ∧ (∀ v, v < gr_n G → d.1 1 v = gr_own G v ∧ d.1 2 v = gr_fx G v) ∧ ∀ x, x < gr_E G → d.1 3 x = gr_src G x ∧ d.1 4 x = gr_tg G x ∧ d.1 5 x = gr_wt G x
/-- what it knows of the values is right -/
def mkn (G : gr_T) (d : mT) : Prop := d.1 0 3 = 0 ∨ (d.1 0 3 = 1 ∧ gr_cpl G ∧ ∀ v, v < gr_n G → (d.1 6 v).toInt = vl_t (vl_F G v) ∧ d.1 7 v = nI (vl_q (vl_F G v)))
def mci (G : gr_T) (d : mT) : Prop := mi G d ∧ mkn G d
theorem mi.n7 {G : gr_T} {d : mT} (h : mi G d) : gr_n G ≤ 7 := h.1.1
theorem mi.e24 {G : gr_T} {d : mT} (h : mi G d) : gr_E G ≤ 24 := h.1.2.1
/-- the numbers of the object that the graph has -/
theorem mi_eq {G : gr_T} {d d' : mT} (h : mi G d) (h1 : d'.1 0 1 = d.1 0 1) (h2 : d'.1 0 2 = d.1 0 2) (hk : ∀ k, 1 ≤ k → k ≤ 5 → d'.1 k = d.1 k) : mi G d' := by
  obtain ⟨a1, a2, a3, a4, a5⟩ := h
  refine ⟨a1, h1.trans a2, h2.trans a3, fun v hv => ?_, fun x hx => ?_⟩
  · rw [hk 1 (by omega) (by omega), hk 2 (by omega) (by omega)]; exact a4 v hv
  · rw [hk 3 (by omega) (by omega), hk 4 (by omega) (by omega), hk 5 (by omega) (by omega)]; exact a5 x hx
theorem mkn_eq {G : gr_T} {d d' : mT} (h : mkn G d) (h1 : d'.1 0 3 = d.1 0 3) (h6 : d'.1 6 = d.1 6) (h7 : d'.1 7 = d.1 7) : mkn G d' := by
  unfold mkn
  rw [h1, h6, h7]
  exact h
/-- only 'thrown' is written -/
def mth (d d' : mT) (k : Int32) : Prop := d' = (va_up d.1 0 (upd (d.1 0) 0 k), d.2)
theorem mth.thr {d d' : mT} {k : Int32} (h : mth d d' k) : d'.1 0 0 = k := by rw [h]; show upd (d.1 0) 0 k 0 = k; rw [ud_at]
theorem mth.z {d d' : mT} {k : Int32} (h : mth d d' k) {j : Nat} (hj : j ≠ 0) : d'.1 0 j = d.1 0 j := by rw [h]; show upd (d.1 0) 0 k j = _; rw [ud_ne hj]
theorem mth.k {d d' : mT} {k : Int32} (h : mth d d' k) {j : Nat} (hj : j ≠ 0) : d'.1 j = d.1 j := by rw [h]; exact up_ne hj
theorem mth.l {d d' : mT} {k : Int32} (h : mth d d' k) : d'.2 = d.2 := by rw [h]
theorem mth.mi {G : gr_T} {d d' : mT} {k : Int32} (h : mth d d' k) (hm : mi G d) : mi G d' := mi_eq hm (h.z (by omega)) (h.z (by omega)) (fun j h1 _ => h.k (by omega))
theorem mth.mci {G : gr_T} {d d' : mT} {k : Int32} (h : mth d d' k) (hm : mci G d) : mci G d' := ⟨h.mi hm.1, mkn_eq hm.2 (h.z (by omega)) (h.k (by omega)) (h.k (by omega))⟩
theorem mkn_0 {G : gr_T} {d : mT} (h : d.1 0 3 = 0) : mkn G d := Or.inl h
theorem ld_iff {G : gr_T} (hg : gf_ok G) {j x : Nat} (hj : j < gr_n G) (hx : x < gr_E G) : x ∈ gr_adj G j ↔ gr_src G x = nI j ∧ (gr_fx G j = -1 ∨ gr_fx G j = nI x) := by
  have h24 := hg.2.1
  rcases hg.fx j hj with hf | ⟨y, hy, hf, hs⟩
  · rw [gr_adj_free hj hf, gr_out_mem]
    exact ⟨fun h => ⟨h.2, Or.inl hf⟩, fun h => ⟨hx, h.1⟩⟩
  · rw [gr_adj_fix hj hf (by omega), List.mem_singleton]
    constructor
    · intro e; subst e; exact ⟨hs, Or.inr hf⟩
    · rintro ⟨-, h | h⟩
      · rw [hf] at h; exact absurd h (nI_ne1 (by omega))
      · exact ((nI_eq (by omega) (by omega)).mp (hf.symm.trans h)).symm
/-- a new vertex -/
theorem mi_addV {G : gr_T} {d d' : mT} {x : Int32} (h : mi G d) (hn : gr_n G < 7) (hx : x = 0 ∨ x = 1) (h1 : d'.1 0 1 = nI (gr_n G + 1)) (h2 : d'.1 0 2 = d.1 0 2) (hp : d'.1 1 = upd (d.1 1) (gr_n G) x) (hf : d'.1 2 = upd (d.1 2) (gr_n G) (-1)) (hk : ∀ k, 3 ≤ k → k ≤ 5 → d'.1 k = d.1 k) : mi (gr_addV G x) d' := by
  obtain ⟨a1, a2, a3, a4, a5⟩ := h
  refine ⟨gf_addV a1 hn hx, h1, h2.trans a3, fun v hv => ?_, fun y hy => ?_⟩
  · have hv : v < gr_n G + 1 := hv
    rw [hp, hf]
    show upd (d.1 1) (gr_n G) x v = upd (gr_own G) (gr_n G) x v ∧ upd (d.1 2) (gr_n G) (-1) v = upd (gr_fx G) (gr_n G) (-1) v
    by_cases e : v = gr_n G
    · rw [e, ud_at, ud_at, ud_at, ud_at]; exact ⟨rfl, rfl⟩
    · rw [ud_ne e, ud_ne e, ud_ne e, ud_ne e]; exact a4 v (by omega)
  · rw [hk 3 (by omega) (by omega), hk 4 (by omega) (by omega), hk 5 (by omega) (by omega)]; exact a5 y hy
theorem mi_addE {G : gr_T} {d d' : mT} {a b : Nat} {x : Int32} (h : mi G d) (hE : gr_E G < 24) (ha : a < gr_n G) (hb : b < gr_n G) (hw1 : -9 ≤ x.toInt) (hw2 : x.toInt ≤ 9) (h1 : d'.1 0 1 = d.1 0 1) (h2 : d'.1 0 2 = nI (gr_E G + 1)) (k1 : d'.1 1 = d.1 1) (k2 : d'.1 2 = d.1 2) (k3 : d'.1 3 = upd (d.1 3) (gr_E G) (nI a)) (k4 : d'.1 4 = upd (d.1 4) (gr_E G) (nI b)) (k5 : d'.1 5 = upd (d.1 5) (gr_E G) x) : mi (gr_addE G (nI a) (nI b) x) d' := by
  obtain ⟨a1, a2, a3, a4, a5⟩ := h
  refine ⟨gf_addE a1 hE ha hb hw1 hw2, h1.trans a2, h2, fun v hv => ?_, fun y hy => ?_⟩
  · rw [k1, k2]; exact a4 v hv
  · have hy : y < gr_E G + 1 := hy
    rw [k3, k4, k5]
    show upd (d.1 3) (gr_E G) (nI a) y = upd (gr_src G) (gr_E G) (nI a) y ∧ upd (d.1 4) (gr_E G) (nI b) y = upd (gr_tg G) (gr_E G) (nI b) y ∧ upd (d.1 5) (gr_E G) x y = upd (gr_wt G) (gr_E G) x y
    by_cases e : y = gr_E G
    · rw [e]; simp only [ud_at]; exact ⟨trivial, trivial, trivial⟩
    · simp only [ud_ne e]; exact a5 y (by omega)
theorem mi_setF {G : gr_T} {d d' : mT} {v : Nat} {x : Int32} (h : mi G d) (hx : x = -1 ∨ ∃ e, e < gr_E G ∧ x = nI e ∧ gr_src G e = nI v) (h1 : d'.1 0 1 = d.1 0 1) (h2 : d'.1 0 2 = d.1 0 2) (hf : d'.1 2 = upd (d.1 2) v x) (hk : ∀ k, 1 ≤ k → k ≤ 5 → k ≠ 2 → d'.1 k = d.1 k) : mi (gr_setF G v x) d' := by
  obtain ⟨a1, a2, a3, a4, a5⟩ := h
  refine ⟨gf_setF a1 hx, h1.trans a2, h2.trans a3, fun u hu => ?_, fun y hy => ?_⟩
  · rw [hk 1 (by omega) (by omega) (by omega), hf]
    show d.1 1 u = gr_own G u ∧ upd (d.1 2) v x u = upd (gr_fx G) v x u
    by_cases e : u = v
    · rw [e, ud_at, ud_at]; exact ⟨(a4 v (e ▸ hu)).1, rfl⟩
    · rw [ud_ne e, ud_ne e]; exact a4 u hu
  · rw [hk 3 (by omega) (by omega) (by omega), hk 4 (by omega) (by omega) (by omega), hk 5 (by omega) (by omega) (by omega)]; exact a5 y hy
theorem iw_X5_thrown_X5 : ∀ w ∈ wsX50, w ∈ wsX5_thrown := by decide +kernel
set_option maxHeartbeats 4000000 in
set_option maxRecDepth 100000 in
/--  -/
theorem cm_thrown (l : Launch) (en : en_T) (bd : Nat → Nat) (d : mT)  : Met l yX5_thrown wsX5_thrown (rm_ 1 0 0) (ct_Pc en [.ref (bd 0)] (fun H => va_P en.1 vwCl (mw en bd d) H)) (ro_Qi (fun r => r = d.1 0 0)) 0 0 (fun _ => False) := by
  refine Met.ofW (cc := cX5_thrown) (maxL := 1) (ret := (some .int)) (by decide) rfl ?_
  intro p e s m args below meth co s₁ B hml hv
  obtain ⟨rfl, hE, hP⟩ := hv
  have hx := B.exec
  have hb := B.bytes
  have hr := B.returns
  have hts := atoms_spec (ws := wsX5_thrown) B.pre
  have hown : s.vm.findClass RX5 = some m.cls := findClass_of_methodNamed B.named
  have hlocks := B.notSynchronized
  have hl := lv_entry ([.ref (bd 0)]) (n := 1) (Nat.le_of_ble_eq_true rfl)
  rw [lg_entry_eq]
  generalize (lg_sl ([.ref (bd 0)]) ++ List.replicate (1 - (lg_sl ([.ref (bd 0)])).length) Slot.unset).toArray = ls at hl ⊢
  have hl : lv_has ls 1 [(0, .ref (bd 0))] := hl
  refine lv_aload_n hx hb dX5_thrown_0 rfl (lv_at hl 0 rfl) ?_
  refine va_get (D := en.1) (ci := 5) (v := .int (d.1 0 0)) (C := RX5) (T := TX5) (N := 16) hx hb hts iw_X5_thrown_X5 hown hE.1 hP 0 rfl rfl 0 (by decide) (hts (.fieldLink RX5 47 "CreditGameModel" "thrown" "I") (by decide +kernel)) (fun _ h9 => h9) rfl dX5_thrown_1 ?_
  exact W.iret (v := (d.1 0 0)) hx hb hr (fun t ht hW => ⟨_, rfl, rfl, ht⟩) (fun q h => by cases h) dX5_thrown_4
theorem iw_X5_isVertex_X5 : ∀ w ∈ wsX50, w ∈ wsX5_isVertex := by decide +kernel
set_option maxHeartbeats 4000000 in
set_option maxRecDepth 100000 in
/--  -/
theorem cm_isVertex (l : Launch) (en : en_T) (bd : Nat → Nat) (d : mT) {G : gr_T} (hm : mi G d) (v : Int32) : Met l yX5_isVertex wsX5_isVertex (rm_ 1 0 0) (ct_Pc en [.ref (bd 0), .int v] (fun H => va_P en.1 vwCl (mw en bd d) H)) (ro_Qi (fun r => hv_P (gr_n G) v r)) 0 0 (fun _ => False) := by
  refine Met.ofW (cc := cX5_isVertex) (maxL := 2) (ret := (some .boolean)) (by decide) rfl ?_
  intro p e s m args below meth co s₁ B hml hv
  obtain ⟨rfl, hE, hP⟩ := hv
  have hx := B.exec
  have hb := B.bytes
  have hr := B.returns
  have hts := atoms_spec (ws := wsX5_isVertex) B.pre
  have hown : s.vm.findClass RX5 = some m.cls := findClass_of_methodNamed B.named
  have hlocks := B.notSynchronized
  have hl := lv_entry ([.ref (bd 0), .int v]) (n := 2) (Nat.le_of_ble_eq_true rfl)
  rw [lg_entry_eq]
  generalize (lg_sl ([.ref (bd 0), .int v]) ++ List.replicate (2 - (lg_sl ([.ref (bd 0), .int v])).length) Slot.unset).toArray = ls at hl ⊢
  have hl : lv_has ls 2 [(0, .ref (bd 0)), (1, .int v)] := hl
  refine lv_iload_n hx hb dX5_isVertex_0 rfl (lv_at hl 1 rfl) ?_
  refine lv_if_lt (tgt := 16) hx hb dX5_isVertex_1 (by decide) (fun b1 => ?_) (fun b1 => ?_)
  · skip
    refine lv_iconst (v := 0) hx hb dX5_isVertex_16 (by decide) ?_
    exact W.zret (v := 0) (ty := .boolean) hx hb hr rfl (fun t ht hW => ⟨_, rfl, (by first | exact hv_neg hm.n7 b1 | exact hv_ge hm.n7 hm.2.1 b9), ht⟩) (fun q h => by cases h) dX5_isVertex_17
  · skip
    refine lv_iload_n hx hb dX5_isVertex_4 rfl (lv_at hl 1 rfl) ?_
    refine lv_aload_n hx hb dX5_isVertex_5 rfl (lv_at hl 0 rfl) ?_
    refine va_get (D := en.1) (ci := 5) (v := .int (d.1 0 1)) (C := RX5) (T := TX5) (N := 16) hx hb hts iw_X5_isVertex_X5 hown hE.1 hP 0 rfl rfl 1 (by decide) (hts (.fieldLink RX5 51 "CreditGameModel" "vertices" "I") (by decide +kernel)) (fun _ h9 => h9) rfl dX5_isVertex_6 ?_
    refine lv_icmp_ge (tgt := 16) hx hb dX5_isVertex_9 (by decide) (fun b9 => ?_) (fun b9 => ?_)
    · skip
      refine lv_iconst (v := 0) hx hb dX5_isVertex_16 (by decide) ?_
      exact W.zret (v := 0) (ty := .boolean) hx hb hr rfl (fun t ht hW => ⟨_, rfl, (by first | exact hv_neg hm.n7 b1 | exact hv_ge hm.n7 hm.2.1 b9), ht⟩) (fun q h => by cases h) dX5_isVertex_17
    · skip
      refine lv_iconst (v := 1) hx hb dX5_isVertex_12 (by decide) ?_
      refine lv_goto (tgt := 17) hx hb dX5_isVertex_13 (by decide) ?_
      exact W.zret (v := 1) (ty := .boolean) hx hb hr rfl (fun t ht hW => ⟨_, rfl, (hv_ok hm.n7 hm.2.1 b1 b9), ht⟩) (fun q h => by cases h) dX5_isVertex_17
theorem iw_X5_leads_X5 : ∀ w ∈ wsX50, w ∈ wsX5_leads := by decide +kernel
set_option maxHeartbeats 4000000 in
set_option maxRecDepth 100000 in
/--  -/
theorem cm_leads (l : Launch) (en : en_T) (bd : Nat → Nat) (d : mT) {G : gr_T} (hm : mi G d) (x j : Nat) (hx_ : x < gr_E G) (hj : j < gr_n G) : Met l yX5_leads wsX5_leads (rm_ 1 0 0) (ct_Pc en [.ref (bd 0), .int (nI x), .int (nI j)] (fun H => va_P en.1 vwCl (mw en bd d) H)) (ro_Qi (fun r => (r = 1 ∧ x ∈ gr_adj G j) ∨ (r = 0 ∧ x ∉ gr_adj G j))) 0 0 (fun _ => False) := by
  refine Met.ofW (cc := cX5_leads) (maxL := 3) (ret := (some .boolean)) (by decide) rfl ?_
  intro p e s m args below meth co s₁ B hml hv
  obtain ⟨rfl, hE, hP⟩ := hv
  have hx := B.exec
  have hb := B.bytes
  have hr := B.returns
  have hts := atoms_spec (ws := wsX5_leads) B.pre
  have hown : s.vm.findClass RX5 = some m.cls := findClass_of_methodNamed B.named
  have hlocks := B.notSynchronized
  have hl := lv_entry ([.ref (bd 0), .int (nI x), .int (nI j)]) (n := 3) (Nat.le_of_ble_eq_true rfl)
  rw [lg_entry_eq]
  generalize (lg_sl ([.ref (bd 0), .int (nI x), .int (nI j)]) ++ List.replicate (3 - (lg_sl ([.ref (bd 0), .int (nI x), .int (nI j)])).length) Slot.unset).toArray = ls at hl ⊢
  have hl : lv_has ls 3 [(0, .ref (bd 0)), (1, .int (nI x)), (2, .int (nI j))] := hl
  have hn7 := hm.n7
  have he24 := hm.e24
  refine lv_aload_n hx hb dX5_leads_0 rfl (lv_at hl 0 rfl) ?_
  refine va_get (D := en.1) (ci := 5) (v := .ref (bd 3)) (C := RX5) (T := TX5) (N := 16) hx hb hts iw_X5_leads_X5 hown hE.1 hP 0 rfl rfl 5 (by decide) (hts (.fieldLink RX5 16 "CreditGameModel" "from" "[I") (by decide +kernel)) (fun _ h9 => h9) rfl dX5_leads_1 ?_
  refine lv_iload_n hx hb dX5_leads_4 rfl (lv_at hl 1 rfl) ?_
  refine mr_ild hx hb hE hP 3 (by decide) x rfl (show _ < 24 by omega) dX5_leads_5 ?_
  refine lv_topi (fun z_5 ez_5 => ?_)
  obtain rfl : z_5 = (gr_src G x) := (ez_5.trans (hm.2.2.2.2 x hx_).1)
  refine lv_iload_n hx hb dX5_leads_6 rfl (lv_at hl 2 rfl) ?_
  refine lv_icmp_ne (tgt := 34) hx hb dX5_leads_7 (by decide) (fun b7 => ?_) (fun b7 => ?_)
  · skip
    refine lv_iconst (v := 0) hx hb dX5_leads_34 (by decide) ?_
    exact W.zret (v := 0) (ty := .boolean) hx hb hr rfl (fun t ht hW => ⟨_, rfl, (by rw [ld_iff hm.1 hj hx_]; first | exact Or.inr ⟨rfl, fun q => b7 q.1⟩ | exact Or.inl ⟨rfl, b7, Or.inl b17⟩ | exact Or.inl ⟨rfl, b7, Or.inr b27⟩ | exact Or.inr ⟨rfl, fun q => q.2.elim b17 b27⟩), ht⟩) (fun q h => by cases h) dX5_leads_35
  · skip
    refine lv_aload_n hx hb dX5_leads_10 rfl (lv_at hl 0 rfl) ?_
    refine va_get (D := en.1) (ci := 5) (v := .ref (bd 2)) (C := RX5) (T := TX5) (N := 16) hx hb hts iw_X5_leads_X5 hown hE.1 hP 0 rfl rfl 3 (by decide) (hts (.fieldLink RX5 13 "CreditGameModel" "fixedTo" "[I") (by decide +kernel)) (fun _ h9 => h9) rfl dX5_leads_11 ?_
    refine lv_iload_n hx hb dX5_leads_14 rfl (lv_at hl 2 rfl) ?_
    refine mr_ild hx hb hE hP 2 (by decide) j rfl (show _ < 7 by omega) dX5_leads_15 ?_
    refine lv_topi (fun z_15 ez_15 => ?_)
    obtain rfl : z_15 = (gr_fx G j) := (ez_15.trans (hm.2.2.2.1 j hj).2)
    refine lv_iconst (v := (-1)) hx hb dX5_leads_16 (by decide) ?_
    refine lv_icmp_eq (tgt := 30) hx hb dX5_leads_17 (by decide) (fun b17 => ?_) (fun b17 => ?_)
    · skip
      refine lv_iconst (v := 1) hx hb dX5_leads_30 (by decide) ?_
      refine lv_goto (tgt := 35) hx hb dX5_leads_31 (by decide) ?_
      exact W.zret (v := 1) (ty := .boolean) hx hb hr rfl (fun t ht hW => ⟨_, rfl, (by rw [ld_iff hm.1 hj hx_]; first | exact Or.inr ⟨rfl, fun q => b7 q.1⟩ | exact Or.inl ⟨rfl, b7, Or.inl b17⟩ | exact Or.inl ⟨rfl, b7, Or.inr b27⟩ | exact Or.inr ⟨rfl, fun q => q.2.elim b17 b27⟩), ht⟩) (fun q h => by cases h) dX5_leads_35
    · skip
      refine lv_aload_n hx hb dX5_leads_20 rfl (lv_at hl 0 rfl) ?_
      refine va_get (D := en.1) (ci := 5) (v := .ref (bd 2)) (C := RX5) (T := TX5) (N := 16) hx hb hts iw_X5_leads_X5 hown hE.1 hP 0 rfl rfl 3 (by decide) (hts (.fieldLink RX5 13 "CreditGameModel" "fixedTo" "[I") (by decide +kernel)) (fun _ h9 => h9) rfl dX5_leads_21 ?_
      refine lv_iload_n hx hb dX5_leads_24 rfl (lv_at hl 2 rfl) ?_
      refine mr_ild hx hb hE hP 2 (by decide) j rfl (show _ < 7 by omega) dX5_leads_25 ?_
      refine lv_topi (fun z_25 ez_25 => ?_)
      obtain rfl : z_25 = (gr_fx G j) := (ez_25.trans (hm.2.2.2.1 j hj).2)
      refine lv_iload_n hx hb dX5_leads_26 rfl (lv_at hl 1 rfl) ?_
      refine lv_icmp_ne (tgt := 34) hx hb dX5_leads_27 (by decide) (fun b27 => ?_) (fun b27 => ?_)
      · skip
        refine lv_iconst (v := 0) hx hb dX5_leads_34 (by decide) ?_
        exact W.zret (v := 0) (ty := .boolean) hx hb hr rfl (fun t ht hW => ⟨_, rfl, (by rw [ld_iff hm.1 hj hx_]; first | exact Or.inr ⟨rfl, fun q => b7 q.1⟩ | exact Or.inl ⟨rfl, b7, Or.inl b17⟩ | exact Or.inl ⟨rfl, b7, Or.inr b27⟩ | exact Or.inr ⟨rfl, fun q => q.2.elim b17 b27⟩), ht⟩) (fun q h => by cases h) dX5_leads_35
      · skip
        refine lv_iconst (v := 1) hx hb dX5_leads_30 (by decide) ?_
        refine lv_goto (tgt := 35) hx hb dX5_leads_31 (by decide) ?_
        exact W.zret (v := 1) (ty := .boolean) hx hb hr rfl (fun t ht hW => ⟨_, rfl, (by rw [ld_iff hm.1 hj hx_]; first | exact Or.inr ⟨rfl, fun q => b7 q.1⟩ | exact Or.inl ⟨rfl, b7, Or.inl b17⟩ | exact Or.inl ⟨rfl, b7, Or.inr b27⟩ | exact Or.inr ⟨rfl, fun q => q.2.elim b17 b27⟩), ht⟩) (fun q h => by cases h) dX5_leads_35
theorem iw_X5_isComplete_X5 : ∀ w ∈ wsX50, w ∈ wsX5_isComplete := by decide +kernel
set_option maxHeartbeats 4000000 in
set_option maxRecDepth 100000 in
/--  -/
theorem cm_isComplete (l : Launch) (en : en_T) (bd : Nat → Nat) (d : mT) {G : gr_T} (hm : mi G d) : Met l yX5_isComplete wsX5_isComplete (rm_ 2 0 0) (ct_Pc en [.ref (bd 0)] (fun H => va_P en.1 vwCl (mw en bd d) H)) (ro_Qi (fun r => (r = 1 ∧ gr_cpl G) ∨ (r = 0 ∧ ¬ gr_cpl G))) 0 0 (fun _ => False) := by
  refine Met.ofW (cc := cX5_isComplete) (maxL := 4) (ret := (some .boolean)) (by decide) rfl ?_
  intro p e s m args below meth co s₁ B hml hv
  obtain ⟨rfl, hE, hP⟩ := hv
  have hx := B.exec
  have hb := B.bytes
  have hr := B.returns
  have hts := atoms_spec (ws := wsX5_isComplete) B.pre
  have hown : s.vm.findClass RX5 = some m.cls := findClass_of_methodNamed B.named
  have hlocks := B.notSynchronized
  have hl := lv_entry ([.ref (bd 0)]) (n := 4) (Nat.le_of_ble_eq_true rfl)
  rw [lg_entry_eq]
  generalize (lg_sl ([.ref (bd 0)]) ++ List.replicate (4 - (lg_sl ([.ref (bd 0)])).length) Slot.unset).toArray = ls at hl ⊢
  have hl : lv_has ls 4 [(0, .ref (bd 0))] := hl
  have hn7 := hm.n7
  have he24 := hm.e24
  refine lv_iconst (v := (nI 0)) hx hb dX5_isComplete_0 (by decide) ?_
  refine lv_istore_n (lv' := [(1, .int (nI 0)), (0, .ref (bd 0))]) hx hb dX5_isComplete_1 rfl hl (by decide) rfl (fun ls hl => ?_)
  have key2 : ∀ (n_ : Nat) (i : Nat) (ls : Array Slot), i ≤ gr_n G → gr_n G + 1 ≤ i + n_ → (∀ v, v < i → gr_adj G v ≠ []) → lv_has ls 4 [(0, .ref (bd 0)), (1, .int (nI i))] → W p l e (headSpec wsX5_isComplete (rm_ 2 0 0)).room s m ([.ref (bd 0)] : List Value).toArray below meth co s.heap [] 0 0 (MQ below (ro_Qi (fun r => (r = 1 ∧ gr_cpl G) ∨ (r = 0 ∧ ¬ gr_cpl G))) ([.ref (bd 0)] : List Value).toArray s 0 0 (fun _ => False)) (F0 m 2 ls []) := by
    intro n_
    induction n_ with
    | zero =>
      intro i ls hi_ hin hd_ hl
      exact absurd hin (by omega)
    | succ n_ ih2 =>
      intro i ls hi_ hin hd_ hl
      refine lv_iload_n hx hb dX5_isComplete_2 rfl (lv_at hl 1 rfl) ?_
      refine lv_aload_n hx hb dX5_isComplete_3 rfl (lv_at hl 0 rfl) ?_
      refine va_get (D := en.1) (ci := 5) (v := .int (d.1 0 1)) (C := RX5) (T := TX5) (N := 16) hx hb hts iw_X5_isComplete_X5 hown hE.1 hP 0 rfl rfl 1 (by decide) (hts (.fieldLink RX5 51 "CreditGameModel" "vertices" "I") (by decide +kernel)) (fun _ h9 => h9) rfl dX5_isComplete_4 ?_
      refine lv_icmp_ge (tgt := 59) hx hb dX5_isComplete_7 (by decide) (fun b7 => ?_) (fun b7 => ?_)
      · skip
        have hin9 : i = gr_n G := by
          rcases Nat.lt_or_ge i (gr_n G) with q | q
          · exact absurd b7 (by rw [hm.2.1]; exact nI_ge q (by omega))
          · omega
        subst hin9
        refine lv_aload_n hx hb dX5_isComplete_59 rfl (lv_at hl 0 rfl) ?_
        refine va_get (D := en.1) (ci := 5) (v := .int (d.1 0 1)) (C := RX5) (T := TX5) (N := 16) hx hb hts iw_X5_isComplete_X5 hown hE.1 hP 0 rfl rfl 1 (by decide) (hts (.fieldLink RX5 51 "CreditGameModel" "vertices" "I") (by decide +kernel)) (fun _ h9 => h9) rfl dX5_isComplete_60 ?_
        refine lv_if_le (tgt := 70) hx hb dX5_isComplete_63 (by decide) (fun b63 => ?_) (fun b63 => ?_)
        · skip
          refine lv_iconst (v := 0) hx hb dX5_isComplete_70 (by decide) ?_
          exact W.zret (v := 0) (ty := .boolean) hx hb hr rfl (fun t ht hW => ⟨_, rfl, (by first | exact Or.inr ⟨rfl, hno⟩ | exact Or.inl ⟨rfl, Nat.pos_of_ne_zero (fun h => b63 (by rw [hm.2.1, h]; decide)), hd_⟩ | exact Or.inr ⟨rfl, fun h => nI_nle h.1 (by omega) (by rw [← hm.2.1]; exact b63)⟩), ht⟩) (fun q h => by cases h) dX5_isComplete_71
        · skip
          refine lv_iconst (v := 1) hx hb dX5_isComplete_66 (by decide) ?_
          refine lv_goto (tgt := 71) hx hb dX5_isComplete_67 (by decide) ?_
          exact W.zret (v := 1) (ty := .boolean) hx hb hr rfl (fun t ht hW => ⟨_, rfl, (by first | exact Or.inr ⟨rfl, hno⟩ | exact Or.inl ⟨rfl, Nat.pos_of_ne_zero (fun h => b63 (by rw [hm.2.1, h]; decide)), hd_⟩ | exact Or.inr ⟨rfl, fun h => nI_nle h.1 (by omega) (by rw [← hm.2.1]; exact b63)⟩), ht⟩) (fun q h => by cases h) dX5_isComplete_71
      · skip
        have hlt : i < gr_n G := by
          rcases Nat.lt_or_ge i (gr_n G) with q | q
          · exact q
          · exact absurd (by rw [hm.2.1]; exact nI_le q (by omega)) b7
        refine lv_iconst (v := 0) hx hb dX5_isComplete_10 (by decide) ?_
        refine lv_istore_n (lv' := [(2, .int 0), (0, .ref (bd 0)), (1, .int (nI i))]) hx hb dX5_isComplete_11 rfl hl (by decide) rfl (fun ls hl => ?_)
        refine lv_iconst (v := (nI 0)) hx hb dX5_isComplete_12 (by decide) ?_
        refine lv_istore_n (lv' := [(3, .int (nI 0)), (2, .int 0), (0, .ref (bd 0)), (1, .int (nI i))]) hx hb dX5_isComplete_13 rfl hl (by decide) rfl (fun ls hl => ?_)
        have key14 : ∀ (n_ : Nat) (k : Nat) (sm : Int32) (ls : Array Slot), k ≤ gr_E G → gr_E G + 1 ≤ k + n_ → ((sm = 1 ∧ ∃ x, x < k ∧ x ∈ gr_adj G i) ∨ (sm = 0 ∧ ∀ x, x < k → x ∉ gr_adj G i)) → lv_has ls 4 [(0, .ref (bd 0)), (1, .int (nI i)), (2, .int sm), (3, .int (nI k))] → W p l e (headSpec wsX5_isComplete (rm_ 2 0 0)).room s m ([.ref (bd 0)] : List Value).toArray below meth co s.heap [] 0 0 (MQ below (ro_Qi (fun r => (r = 1 ∧ gr_cpl G) ∨ (r = 0 ∧ ¬ gr_cpl G))) ([.ref (bd 0)] : List Value).toArray s 0 0 (fun _ => False)) (F0 m 14 ls []) := by
          intro n_
          induction n_ with
          | zero =>
            intro k sm ls hk_ hkn hsm hl
            exact absurd hkn (by omega)
          | succ n_ ih14 =>
            intro k sm ls hk_ hkn hsm hl
            refine lv_iload_n hx hb dX5_isComplete_14 rfl (lv_at hl 3 rfl) ?_
            refine lv_aload_n hx hb dX5_isComplete_15 rfl (lv_at hl 0 rfl) ?_
            refine va_get (D := en.1) (ci := 5) (v := .int (d.1 0 2)) (C := RX5) (T := TX5) (N := 16) hx hb hts iw_X5_isComplete_X5 hown hE.1 hP 0 rfl rfl 4 (by decide) (hts (.fieldLink RX5 54 "CreditGameModel" "edges" "I") (by decide +kernel)) (fun _ h9 => h9) rfl dX5_isComplete_16 ?_
            refine lv_icmp_ge (tgt := 47) hx hb dX5_isComplete_19 (by decide) (fun b19 => ?_) (fun b19 => ?_)
            · skip
              have hkE : k = gr_E G := by
                rcases Nat.lt_or_ge k (gr_E G) with q | q
                · exact absurd b19 (by rw [hm.2.2.1]; exact nI_ge q (by omega))
                · omega
              refine lv_iload_n hx hb dX5_isComplete_47 rfl (lv_at hl 2 rfl) ?_
              refine lv_if_ne (tgt := 53) hx hb dX5_isComplete_48 (by decide) (fun b48 => ?_) (fun b48 => ?_)
              · skip
                have hne : gr_adj G i ≠ [] := by
                  obtain ⟨x, -, hx9⟩ := (hsm.resolve_right (fun q => b48 q.1)).2
                  exact List.ne_nil_of_mem hx9
                refine lv_iinc (v := (nI (i + 1))) (lv' := [(1, .int (nI (i + 1))), (0, .ref (bd 0)), (2, .int sm), (3, .int (nI k))]) hx hb dX5_isComplete_53 hl (k := 1) rfl (nI_1 _) (by decide) rfl (fun ls hl => ?_)
                refine lv_goto (tgt := 2) hx hb dX5_isComplete_56 (by decide) ?_
                exact ih2 (i + 1) _ (by omega) (by omega) (fun v h => by by_cases e9 : v = i; rw [e9]; exact hne; exact hd_ v (by omega)) (lv_sub hl [1, 0] rfl)
              · skip
                have hno : ¬ gr_cpl G := by
                  intro q
                  have h1 := (hsm.resolve_left (fun q => absurd (q.1.symm.trans b48) (by decide))).2
                  obtain ⟨x, hx9⟩ := List.exists_mem_of_ne_nil _ (q.2 i hlt)
                  exact h1 x (by rw [hkE]; exact (gr_adj_mem hm.1 hlt hx9).1) hx9
                refine lv_iconst (v := 0) hx hb dX5_isComplete_51 (by decide) ?_
                exact W.zret (v := 0) (ty := .boolean) hx hb hr rfl (fun t ht hW => ⟨_, rfl, (by first | exact Or.inr ⟨rfl, hno⟩ | exact Or.inl ⟨rfl, Nat.pos_of_ne_zero (fun h => b63 (by rw [hm.2.1, h]; decide)), hd_⟩ | exact Or.inr ⟨rfl, fun h => nI_nle h.1 (by omega) (by rw [← hm.2.1]; exact b63)⟩), ht⟩) (fun q h => by cases h) dX5_isComplete_52
            · skip
              have hlk : k < gr_E G := by
                rcases Nat.lt_or_ge k (gr_E G) with q | q
                · exact q
                · exact absurd (by rw [hm.2.2.1]; exact nI_le q (by omega)) b19
              refine lv_iload_n hx hb dX5_isComplete_22 rfl (lv_at hl 2 rfl) ?_
              refine lv_if_ne (tgt := 35) hx hb dX5_isComplete_23 (by decide) (fun b23 => ?_) (fun b23 => ?_)
              · skip
                refine lv_iconst (v := 1) hx hb dX5_isComplete_35 (by decide) ?_
                refine lv_goto (tgt := 40) hx hb dX5_isComplete_36 (by decide) ?_
                refine lv_istore_n (lv' := [(2, .int 1), (0, .ref (bd 0)), (1, .int (nI i)), (3, .int (nI k))]) hx hb dX5_isComplete_40 rfl hl (by decide) rfl (fun ls hl => ?_)
                refine lv_iinc (v := (nI (k + 1))) (lv' := [(3, .int (nI (k + 1))), (2, .int 1), (0, .ref (bd 0)), (1, .int (nI i))]) hx hb dX5_isComplete_41 hl (k := 3) rfl (nI_1 _) (by decide) rfl (fun ls hl => ?_)
                refine lv_goto (tgt := 14) hx hb dX5_isComplete_44 (by decide) ?_
                exact ih14 (k + 1) 1 _ (by omega) (by omega) (by first | exact Or.inl ⟨rfl, (hsm.resolve_right (fun q => b23 q.1)).2.elim (fun x h => ⟨x, by omega, h.2⟩)⟩ | exact Or.inl ⟨rfl, k, by omega, (w29.resolve_right (fun q => b32 q.1)).2⟩) (lv_sub hl [2, 3, 1, 0] rfl)
              · skip
                refine lv_aload_n hx hb dX5_isComplete_26 rfl (lv_at hl 0 rfl) ?_
                refine lv_iload_n hx hb dX5_isComplete_27 rfl (lv_at hl 3 rfl) ?_
                refine lv_iload_n hx hb dX5_isComplete_28 rfl (lv_at hl 1 rfl) ?_
                refine ro_calli (va_runV (As := [.int (nI k), .int (nI i)]) (rest := []) ⟨hx, hb, hml, hown, hts⟩ (cm_leads l en bd d hm k i hlk hlt) (cwV 2 hts gX5_isComplete_X5_leads rfl rfl rfl (by decide +kernel) ⟨Nat.le_of_ble_eq_true rfl, Nat.le_of_ble_eq_true rfl⟩) (ct_preV hE (va_recv hE.1 hP (ci := 5) (q0 := 0) rfl rfl) hP) rfl rfl hl.1 rfl (lv_room (Nat.le_of_ble_eq_true rfl)) dX5_isComplete_29 ⟨Nat.le_of_ble_eq_true rfl, Nat.le_of_ble_eq_true rfl⟩) (fun r29 w29 => ?_)
                refine lv_if_eq (tgt := 39) hx hb dX5_isComplete_32 (by decide) (fun b32 => ?_) (fun b32 => ?_)
                · skip
                  refine lv_iconst (v := 0) hx hb dX5_isComplete_39 (by decide) ?_
                  refine lv_istore_n (lv' := [(2, .int 0), (0, .ref (bd 0)), (1, .int (nI i)), (3, .int (nI k))]) hx hb dX5_isComplete_40 rfl hl (by decide) rfl (fun ls hl => ?_)
                  refine lv_iinc (v := (nI (k + 1))) (lv' := [(3, .int (nI (k + 1))), (2, .int 0), (0, .ref (bd 0)), (1, .int (nI i))]) hx hb dX5_isComplete_41 hl (k := 3) rfl (nI_1 _) (by decide) rfl (fun ls hl => ?_)
                  refine lv_goto (tgt := 14) hx hb dX5_isComplete_44 (by decide) ?_
                  exact ih14 (k + 1) 0 _ (by omega) (by omega) (Or.inr ⟨rfl, fun x h => by by_cases e9 : x = k; rw [e9]; exact (w29.resolve_left (fun q => absurd (q.1.symm.trans b32) (by decide))).2; exact (hsm.resolve_left (fun q => absurd (q.1.symm.trans b23) (by decide))).2 x (by omega)⟩) (lv_sub hl [2, 3, 1, 0] rfl)
                · skip
                  refine lv_iconst (v := 1) hx hb dX5_isComplete_35 (by decide) ?_
                  refine lv_goto (tgt := 40) hx hb dX5_isComplete_36 (by decide) ?_
                  refine lv_istore_n (lv' := [(2, .int 1), (0, .ref (bd 0)), (1, .int (nI i)), (3, .int (nI k))]) hx hb dX5_isComplete_40 rfl hl (by decide) rfl (fun ls hl => ?_)
                  refine lv_iinc (v := (nI (k + 1))) (lv' := [(3, .int (nI (k + 1))), (2, .int 1), (0, .ref (bd 0)), (1, .int (nI i))]) hx hb dX5_isComplete_41 hl (k := 3) rfl (nI_1 _) (by decide) rfl (fun ls hl => ?_)
                  refine lv_goto (tgt := 14) hx hb dX5_isComplete_44 (by decide) ?_
                  exact ih14 (k + 1) 1 _ (by omega) (by omega) (by first | exact Or.inl ⟨rfl, (hsm.resolve_right (fun q => b23 q.1)).2.elim (fun x h => ⟨x, by omega, h.2⟩)⟩ | exact Or.inl ⟨rfl, k, by omega, (w29.resolve_right (fun q => b32 q.1)).2⟩) (lv_sub hl [2, 3, 1, 0] rfl)
        exact key14 (gr_E G + 1) 0 0 _ (Nat.zero_le _) (by omega) (Or.inr ⟨rfl, fun x h => absurd h (Nat.not_lt_zero x)⟩) (lv_sub hl [2, 3, 1, 0] rfl)
  exact key2 (gr_n G + 1) 0 _ (Nat.zero_le _) (by omega) (fun v h => absurd h (Nat.not_lt_zero v)) (lv_sub hl [1, 0] rfl)
set_option maxHeartbeats 4000000 in
set_option maxRecDepth 100000 in
/--  -/
theorem cm_common (l : Launch) (en : en_T) (bd : Nat → Nat) (d : mT) (a b : Nat) (ha : a ≤ 1000) (hb_ : b ≤ 1000) : Met l yX5_common wsX5_common (rm_ 1 0 0) (ct_Pc en [.int (nI a), .int (nI b)] (fun H => True)) (ro_Qi (fun r => r = nI (Nat.gcd a b))) 0 0 (fun _ => False) := by
  refine Met.ofW (cc := cX5_common) (maxL := 5) (ret := (some .int)) (by decide) rfl ?_
  intro p e s m args below meth co s₁ B hml hv
  obtain ⟨rfl, hE, hP⟩ := hv
  have hx := B.exec
  have hb := B.bytes
  have hr := B.returns
  have hts := atoms_spec (ws := wsX5_common) B.pre
  have hown : s.vm.findClass RX5 = some m.cls := findClass_of_methodNamed B.named
  have hlocks := B.notSynchronized
  have hl := lv_entry ([.int (nI a), .int (nI b)]) (n := 5) (Nat.le_of_ble_eq_true rfl)
  rw [lg_entry_eq]
  generalize (lg_sl ([.int (nI a), .int (nI b)]) ++ List.replicate (5 - (lg_sl ([.int (nI a), .int (nI b)])).length) Slot.unset).toArray = ls at hl ⊢
  have hl : lv_has ls 5 [(0, .int (nI a)), (1, .int (nI b))] := hl
  refine lv_iload_n hx hb dX5_common_0 rfl (lv_at hl 0 rfl) ?_
  refine lv_istore_n (lv' := [(2, .int (nI a)), (0, .int (nI a)), (1, .int (nI b))]) hx hb dX5_common_1 rfl hl (by decide) rfl (fun ls hl => ?_)
  refine lv_iload_n hx hb dX5_common_2 rfl (lv_at hl 2 rfl) ?_
  refine lv_istore_n (lv' := [(3, .int (nI b)), (2, .int (nI a)), (0, .int (nI a)), (1, .int (nI b))]) hx hb dX5_common_3 rfl hl (by decide) rfl (fun ls hl => ?_)
  have key4 : ∀ (n_ : Nat) (x y : Nat) (ls : Array Slot), x ≤ 1000 → y ≤ 1000 → y + 1 ≤ n_ → Nat.gcd x y = Nat.gcd a b → lv_has ls 5 [(0, .int (nI a)), (1, .int (nI b)), (2, .int (nI x)), (3, .int (nI y))] → W p l e (headSpec wsX5_common (rm_ 1 0 0)).room s m ([.int (nI a), .int (nI b)] : List Value).toArray below meth co s.heap [] 0 0 (MQ below (ro_Qi (fun r => r = nI (Nat.gcd a b))) ([.int (nI a), .int (nI b)] : List Value).toArray s 0 0 (fun _ => False)) (F0 m 4 ls []) := by
    intro n_
    induction n_ with
    | zero =>
      intro x y ls hx_ hy_ hin hgc hl
      exact absurd hin (by omega)
    | succ n_ ih4 =>
      intro x y ls hx_ hy_ hin hgc hl
      refine lv_iload_n hx hb dX5_common_4 rfl (lv_at hl 3 rfl) ?_
      refine lv_if_eq (tgt := 21) hx hb dX5_common_5 (by decide) (fun b5 => ?_) (fun b5 => ?_)
      · skip
        have hy0 : y = 0 := by
          rcases Nat.eq_zero_or_pos y with q | q
          · exact q
          · exact absurd b5 (nI_ne0 q (by omega))
        refine lv_iload_n hx hb dX5_common_21 rfl (lv_at hl 2 rfl) ?_
        exact W.iret (v := (nI x)) hx hb hr (fun t ht hW => ⟨_, rfl, (by rw [← hgc, hy0, Nat.gcd_zero_right]), ht⟩) (fun q h => by cases h) dX5_common_22
      · skip
        have hy0 : 0 < y := by
          rcases Nat.eq_zero_or_pos y with q | q
          · exact absurd (by rw [q]; rfl) b5
          · exact q
        refine lv_iload_n hx hb dX5_common_8 rfl (lv_at hl 2 rfl) ?_
        refine lv_iload_n hx hb dX5_common_9 rfl (lv_at hl 3 rfl) ?_
        refine lv_irem hx hb dX5_common_10 (nI_ne0 hy0 (by omega)) ?_
        refine lv_topi (fun z_10 ez_10 => ?_)
        obtain rfl : z_10 = (nI (x % y)) := (ez_10.trans (pk_rem (by omega) hy0 (by omega)))
        refine lv_istore (lv' := [(4, .int (nI (x % y))), (0, .int (nI a)), (1, .int (nI b)), (2, .int (nI x)), (3, .int (nI y))]) hx hb dX5_common_11 hl (by decide) rfl (fun ls hl => ?_)
        refine lv_iload_n hx hb dX5_common_13 rfl (lv_at hl 4 rfl) ?_
        refine lv_istore_n (lv' := [(2, .int (nI y)), (4, .int (nI (x % y))), (0, .int (nI a)), (1, .int (nI b)), (3, .int (nI y))]) hx hb dX5_common_14 rfl hl (by decide) rfl (fun ls hl => ?_)
        refine lv_iload hx hb dX5_common_15 (lv_at hl 1 rfl) ?_
        refine lv_istore_n (lv' := [(3, .int (nI (x % y))), (2, .int (nI y)), (4, .int (nI (x % y))), (0, .int (nI a)), (1, .int (nI b))]) hx hb dX5_common_17 rfl hl (by decide) rfl (fun ls hl => ?_)
        refine lv_goto (tgt := 4) hx hb dX5_common_18 (by decide) ?_
        exact ih4 y (x % y) _ hy_ (Nat.le_trans (Nat.mod_le x y) hx_) (by have := Nat.mod_lt x hy0; omega) (by rw [← hgc, Nat.gcd_comm x y, Nat.gcd_rec y x, Nat.gcd_comm]) (lv_sub hl [3, 4, 1, 0] rfl)
  exact key4 (b + 1) a b _ ha hb_ (Nat.le_refl _) rfl (lv_sub hl [2, 3, 1, 0] rfl)
