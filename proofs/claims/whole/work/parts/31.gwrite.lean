/-! ===== CreditGame$Graph: the methods that write ===== -/
def gr_addV (G : gr_T) (x : Int32) : gr_T := (gr_n G + 1, gr_E G, upd (gr_own G) (gr_n G) x, upd (gr_fx G) (gr_n G) (-1), gr_src G, gr_tg G, gr_wt G)
def gr_addE (G : gr_T) (a b w : Int32) : gr_T := (gr_n G, gr_E G + 1, gr_own G, gr_fx G, upd (gr_src G) (gr_E G) a, upd (gr_tg G) (gr_E G) b, upd (gr_wt G) (gr_E G) w)
def gr_setF (G : gr_T) (v : Nat) (x : Int32) : gr_T := (gr_n G, gr_E G, gr_own G, upd (gr_fx G) v x, gr_src G, gr_tg G, gr_wt G)
theorem gf_addV {G : gr_T} (hg : gf_ok G) (hn : gr_n G < 7) {x : Int32} (hx : x = 0 ∨ x = 1) : gf_ok (gr_addV G x) := by
  obtain ⟨h1, h2, h3, h4, h5⟩ := hg
  refine ⟨show gr_n G + 1 ≤ 7 by omega, h2, fun v hv => ?_, fun e he => ?_, fun v hv => ?_⟩
  · show upd (gr_own G) (gr_n G) x v = 0 ∨ upd (gr_own G) (gr_n G) x v = 1
    by_cases e : v = gr_n G
    · rw [e, ud_at]; exact hx
    · rw [ud_ne e]; exact h3 v (by have : v < gr_n G + 1 := hv; omega)
  · obtain ⟨⟨a, ha, ha2⟩, ⟨b, hb, hb2⟩, h⟩ := h4 e he
    exact ⟨⟨a, show a < gr_n G + 1 by omega, ha2⟩, ⟨b, show b < gr_n G + 1 by omega, hb2⟩, h⟩
  · show upd (gr_fx G) (gr_n G) (-1) v = -1 ∨ ∃ e, e < gr_E G ∧ upd (gr_fx G) (gr_n G) (-1) v = nI e ∧ gr_src G e = nI v
    by_cases e : v = gr_n G
    · rw [e, ud_at]; exact Or.inl rfl
    · rw [ud_ne e]; exact h5 v (by have : v < gr_n G + 1 := hv; omega)
theorem gf_addE {G : gr_T} (hg : gf_ok G) (hE : gr_E G < 24) {a b : Nat} {w : Int32} (ha : a < gr_n G) (hb : b < gr_n G) (hw1 : -9 ≤ w.toInt) (hw2 : w.toInt ≤ 9) : gf_ok (gr_addE G (nI a) (nI b) w) := by
  obtain ⟨h1, h2, h3, h4, h5⟩ := hg
  refine ⟨h1, show gr_E G + 1 ≤ 24 by omega, h3, fun e he => ?_, fun v hv => ?_⟩
  · show (∃ a_1, a_1 < gr_n G ∧ upd (gr_src G) (gr_E G) (nI a) e = nI a_1) ∧ (∃ b_1, b_1 < gr_n G ∧ upd (gr_tg G) (gr_E G) (nI b) e = nI b_1) ∧ -9 ≤ (upd (gr_wt G) (gr_E G) w e).toInt ∧ (upd (gr_wt G) (gr_E G) w e).toInt ≤ 9
    by_cases q : e = gr_E G
    · rw [q, ud_at, ud_at, ud_at]; exact ⟨⟨a, ha, rfl⟩, ⟨b, hb, rfl⟩, hw1, hw2⟩
    · rw [ud_ne q, ud_ne q, ud_ne q]; exact h4 e (by have : e < gr_E G + 1 := he; omega)
  · show gr_fx G v = -1 ∨ ∃ e, e < gr_E G + 1 ∧ gr_fx G v = nI e ∧ upd (gr_src G) (gr_E G) (nI a) e = nI v
    rcases h5 v hv with q | ⟨e, he, q1, q2⟩
    · exact Or.inl q
    · exact Or.inr ⟨e, by omega, q1, by rw [ud_ne (by omega)]; exact q2⟩
theorem gf_setF {G : gr_T} (hg : gf_ok G) {v : Nat} {x : Int32} (hx : x = -1 ∨ ∃ e, e < gr_E G ∧ x = nI e ∧ gr_src G e = nI v) : gf_ok (gr_setF G v x) := by
  obtain ⟨h1, h2, h3, h4, h5⟩ := hg
  refine ⟨h1, h2, h3, h4, fun u hu => ?_⟩
  show upd (gr_fx G) v x u = -1 ∨ ∃ e, e < gr_E G ∧ upd (gr_fx G) v x u = nI e ∧ gr_src G e = nI u
  by_cases e : u = v
  · rw [e, ud_at]; exact hx
  · rw [ud_ne e]; exact h5 u hu
theorem gi_addV {G : gr_T} {c c' : Nat → Nat → Int32} {x : Int32} (hg : gi G c) (hn : gr_n G < 7) (hx : x = 0 ∨ x = 1) (hk : kx [1, 6, 7] c c') (h0 : c' 1 0 = nI (gr_n G + 1)) (h1 : c' 1 1 = c 1 1) (h6 : c' 6 = upd (c 6) (gr_n G) x) (h7 : c' 7 = upd (c 7) (gr_n G) (-1)) : gi (gr_addV G x) c' := by
  refine ⟨gf_addV hg.ok hn hx, h0, h1.trans hg.ec, ?_, ?_, ?_, ?_, ?_, fun v hv => ?_⟩
  · rw [h6, hg.c6]; rfl
  · rw [h7, hg.c7]; rfl
  · rw [hk 9 (by decide)]; exact hg.c9
  · rw [hk 10 (by decide)]; exact hg.c10
  · rw [hk 11 (by decide)]; exact hg.c11
  · rw [hk 8 (by decide), hk (22 + v) (by simp; omega)]; exact hg.rows v hv
theorem gp_out_snoc {E : Nat} {src : Nat → Int32} {a v : Nat} (ha : a < 7) (hv : v < 7) : gp_out (E + 1) (upd src E (nI a)) v = if v = a then gp_out E src v ++ [E] else gp_out E src v := by
  unfold gp_out
  rw [List.range_succ, List.filter_append]
  have e1 : (List.range E).filter (fun e => upd src E (nI a) e == nI v) = (List.range E).filter (fun e => src e == nI v) := by
    apply List.filter_congr
    intro e he
    rw [ud_ne (by have := List.mem_range.mp he; omega)]
  rw [e1]
  by_cases h : v = a
  · rw [if_pos h]
    simp [ud_at, h]
  · rw [if_neg h]
    have hne : ¬ nI a = nI v := fun q => h ((nI_eq (by omega) (by omega)).mp q).symm
    simp [ud_at, hne]
theorem gi_addE {G : gr_T} {c c' : Nat → Nat → Int32} {a b : Nat} {w : Int32} (hg : gi G c) (hE : gr_E G < 24) (ha : a < gr_n G) (hb : b < gr_n G) (hw1 : -9 ≤ w.toInt) (hw2 : w.toInt ≤ 9) (h0 : c' 1 0 = c 1 0) (h1 : c' 1 1 = nI (gr_E G + 1)) (h6 : c' 6 = c 6) (h7 : c' 7 = c 7) (h8 : c' 8 = upd (c 8) a (nI ((gr_out G a).length + 1))) (h9 : c' 9 = upd (c 9) (gr_E G) (nI a)) (h10 : c' 10 = upd (c 10) (gr_E G) (nI b)) (h11 : c' 11 = upd (c 11) (gr_E G) w) (hr : c' (22 + a) = upd (c (22 + a)) (gr_out G a).length (nI (gr_E G))) (hr2 : ∀ v, v < 7 → v ≠ a → c' (22 + v) = c (22 + v)) : gi (gr_addE G (nI a) (nI b) w) c' := by
  have h7n := hg.n7
  refine ⟨gf_addE hg.ok hE ha hb hw1 hw2, h0.trans hg.vc, h1, h6.trans hg.c6, h7.trans hg.c7, ?_, ?_, ?_, fun v hv => ?_⟩
  · rw [h9, hg.c9]; rfl
  · rw [h10, hg.c10]; rfl
  · rw [h11, hg.c11]; rfl
  · have eo : gr_out (gr_addE G (nI a) (nI b) w) v = if v = a then gr_out G v ++ [gr_E G] else gr_out G v := gp_out_snoc (by omega) hv
    rw [eo, h8]
    by_cases e : v = a
    · subst e
      rw [if_pos rfl, ud_at, hr]
      refine ⟨by rw [List.length_append]; rfl, fun k hk => ?_⟩
      rw [List.length_append, List.length_singleton] at hk
      by_cases ek : k = (gr_out G v).length
      · rw [ek, ud_at, List.getD_eq_getElem?_getD, List.getElem?_append_right (Nat.le_refl _), Nat.sub_self]
        rfl
      · rw [ud_ne ek, List.getD_eq_getElem?_getD, List.getElem?_append_left (by omega), ← List.getD_eq_getElem?_getD]
        exact (hg.rows v hv).2 k (by omega)
    · rw [if_neg e, ud_ne e, hr2 v hv e]
      exact hg.rows v hv
theorem gi_setF {G : gr_T} {c c' : Nat → Nat → Int32} {v : Nat} {x : Int32} (hg : gi G c) (hx : x = -1 ∨ ∃ e, e < gr_E G ∧ x = nI e ∧ gr_src G e = nI v) (h : c' = va_up c 7 (upd (c 7) v x)) : gi (gr_setF G v x) c' := by
  have e : ∀ j, j ≠ 7 → c' j = c j := fun j hj => by rw [h]; exact up_ne hj
  refine ⟨gf_setF hg.ok hx, ?_, ?_, ?_, ?_, ?_, ?_, ?_, fun u hu => ?_⟩
  · rw [e 1 (by omega)]; exact hg.vc
  · rw [e 1 (by omega)]; exact hg.ec
  · rw [e 6 (by omega)]; exact hg.c6
  · rw [h, up_at, hg.c7]; rfl
  · rw [e 9 (by omega)]; exact hg.c9
  · rw [e 10 (by omega)]; exact hg.c10
  · rw [e 11 (by omega)]; exact hg.c11
  · rw [e 8 (by omega), e (22 + u) (by omega)]; exact hg.rows u hu
theorem vi_0 {G : gr_T} {c : Nat → Nat → Int32} (h : ∀ v, v < 7 → c 12 v = 0) : vi G c := fun v hv => Or.inl (h v hv)
theorem vi_eq {G : gr_T} {c c' : Nat → Nat → Int32} (h : vi G c) (e1 : c' 12 = c 12) (e2 : c' 13 = c 13) : vi G c' := fun v hv => by rw [e1, e2]; exact h v hv
theorem iw_X1_addVertex_X1 : ∀ w ∈ wsX10, w ∈ wsX1_addVertex := by decide +kernel
set_option maxHeartbeats 4000000 in
set_option maxRecDepth 100000 in
/--  -/
theorem ct_addVertex (l : Launch) (en : en_T) (ad : Nat → Nat) (c : Nat → Nat → Int32) (hI : xw_I ad) (sz : Nat) {G : gr_T} (hg : gi G c) (hn : gr_n G < 7) (x : Int32) (hx_ : x = 0 ∨ x = 1) : Met l yX1_addVertex wsX1_addVertex (rm_ 1 0 0) (ct_Pc en [.ref (ad 1), .int x] (fun H => H.size = sz ∧ va_P en.1 vwCl (xw en ad c) H)) (va_Qi (fun r c' => r = nI (gr_n G) ∧ gi (gr_addV G x) c' ∧ kx [1, 6, 7] c c') (fun c' t => va_P en.1 vwCl (xw en ad c') t.heap) (xw_A ad sz)) 0 0 (xw_A ad sz) := by
  refine Met.ofW (cc := cX1_addVertex) (maxL := 3) (ret := (some .int)) (by decide) rfl ?_
  intro p e s m args below meth co s₁ B hml hv
  obtain ⟨rfl, hE, hsz, hP⟩ := hv
  subst hsz
  have hx := B.exec
  have hb := B.bytes
  have hr := B.returns
  have hts := atoms_spec (ws := wsX1_addVertex) B.pre
  have hown : s.vm.findClass RX1 = some m.cls := findClass_of_methodNamed B.named
  have hlocks := B.notSynchronized
  have hS : va_S (xw_A ad s.heap.size) s.heap s.heap [] := va_S.rf
  have hl := lv_entry ([.ref (ad 1), .int x]) (n := 3) (Nat.le_of_ble_eq_true rfl)
  rw [lg_entry_eq]
  generalize (lg_sl ([.ref (ad 1), .int x]) ++ List.replicate (3 - (lg_sl ([.ref (ad 1), .int x])).length) Slot.unset).toArray = ls at hl ⊢
  have hl : lv_has ls 3 [(0, .ref (ad 1)), (1, .int x)] := hl
  refine lv_aload_n hx hb dX1_addVertex_0 rfl (lv_at hl 0 rfl) ?_
  refine va_get (D := en.1) (ci := 1) (v := .int (c 1 0)) (C := RX1) (T := TX1) (N := 9) hx hb hts iw_X1_addVertex_X1 hown hE.1 hP 1 rfl rfl 7 (by decide) (hts (.fieldLink RX1 35 "CreditGame$Graph" "vertexCount" "I") (by decide +kernel)) (fun _ h9 => h9) rfl dX1_addVertex_1 ?_
  refine lv_topi (fun z_1 ez_1 => ?_)
  obtain rfl : z_1 = (nI (gr_n G)) := (ez_1.trans hg.vc)
  refine lv_istore_n (lv' := [(2, .int (nI (gr_n G))), (0, .ref (ad 1)), (1, .int x)]) hx hb dX1_addVertex_4 rfl hl (by decide) rfl (fun ls hl => ?_)
  refine lv_iload_n hx hb dX1_addVertex_5 rfl (lv_at hl 0 rfl) ?_
  refine lv_if_lt (tgt := 15) hx hb dX1_addVertex_6 (by decide) (fun b6 => absurd b6 (nI_pos (by omega))) (fun b6 => ?_)
  refine lv_iload_n hx hb dX1_addVertex_9 rfl (lv_at hl 0 rfl) ?_
  refine lv_bipush (v := (nI 7)) hx hb dX1_addVertex_10 (by decide) ?_
  refine lv_icmp_lt (tgt := 17) hx hb dX1_addVertex_12 (by decide) (fun b12 => ?_) (fun b12 => absurd b12 (fun q => q (nI_lt hn (by omega))))
  refine lv_aload_n hx hb dX1_addVertex_17 rfl (lv_at hl 1 rfl) ?_
  refine va_get (D := en.1) (ci := 1) (v := .ref (ad 6)) (C := RX1) (T := TX1) (N := 9) hx hb hts iw_X1_addVertex_X1 hown hE.1 hP 1 rfl rfl 0 (by decide) (hts (.fieldLink RX1 9 "CreditGame$Graph" "owner" "[I") (by decide +kernel)) (fun _ h9 => h9) rfl dX1_addVertex_18 ?_
  refine lv_iload_n hx hb dX1_addVertex_21 rfl (lv_at hl 0 rfl) ?_
  refine lv_iload_n hx hb dX1_addVertex_22 rfl (lv_at hl 2 rfl) ?_
  refine xr_ist hx hb hE hP hI hS 6 (by decide) (gr_n G) rfl (show _ < 7 by omega) dX1_addVertex_23 (fun H locs hP hS => ?_)
  obtain ⟨c23, ec23⟩ : ∃ z : Nat → Nat → Int32, z = va_up c 6 (upd (c 6) (gr_n G) x) := ⟨_, rfl⟩
  rw [← ec23] at hP
  refine lv_aload_n hx hb dX1_addVertex_24 rfl (lv_at hl 1 rfl) ?_
  refine va_get (D := en.1) (ci := 1) (v := .ref (ad 7)) (C := RX1) (T := TX1) (N := 9) hx hb hts iw_X1_addVertex_X1 hown hE.1 hP 1 rfl rfl 1 (by decide) (hts (.fieldLink RX1 15 "CreditGame$Graph" "fixedTo" "[I") (by decide +kernel)) (fun _ h9 => h9) rfl dX1_addVertex_25 ?_
  refine lv_iload_n hx hb dX1_addVertex_28 rfl (lv_at hl 0 rfl) ?_
  refine lv_iconst (v := (-1)) hx hb dX1_addVertex_29 (by decide) ?_
  refine xr_ist hx hb hE hP hI hS 7 (by decide) (gr_n G) rfl (show _ < 7 by omega) dX1_addVertex_30 (fun H locs hP hS => ?_)
  obtain ⟨c30, ec30⟩ : ∃ z : Nat → Nat → Int32, z = va_up c23 7 (upd (c23 7) (gr_n G) (-1)) := ⟨_, rfl⟩
  rw [← ec30] at hP
  refine lv_aload_n hx hb dX1_addVertex_31 rfl (lv_at hl 1 rfl) ?_
  refine lv_iload_n hx hb dX1_addVertex_32 rfl (lv_at hl 0 rfl) ?_
  refine lv_iconst (v := 1) hx hb dX1_addVertex_33 (by decide) ?_
  refine lv_iadd hx hb dX1_addVertex_34 ?_
  refine lv_topi (fun z_34 ez_34 => ?_)
  obtain rfl : z_34 = (nI (gr_n G + 1)) := (ez_34.trans (nI_1 _))
  refine va_put (D := en.1) (ci := 1) (v := .int (nI (gr_n G + 1))) (ty := .int) (C := RX1) (T := TX1) (N := 9) hx hb hts iw_X1_addVertex_X1 tyX1 tyX1_ok nmX1 hown hE.1 hP (xw_D hI) hS 1 rfl rfl 7 (by decide) (hts (.fieldLink RX1 35 "CreditGame$Graph" "vertexCount" "I") (by decide +kernel)) (fun _ h9 => h9) rfl (by decide +kernel) rfl rfl (Nat.le_of_ble_eq_true rfl) dX1_addVertex_35 (fun H locs hP _ hS => ?_)
  have hP : va_P en.1 vwCl (xw en ad (va_up c30 1 (upd (c30 1) 0 (nI (gr_n G + 1))))) H := hP
  obtain ⟨c35, ec35⟩ : ∃ z : Nat → Nat → Int32, z = va_up c30 1 (upd (c30 1) 0 (nI (gr_n G + 1))) := ⟨_, rfl⟩
  rw [← ec35] at hP
  refine lv_iload_n hx hb dX1_addVertex_38 rfl (lv_at hl 0 rfl) ?_
  exact W.iret (v := (nI (gr_n G))) hx hb hr (fun t ht hW => ⟨⟨_, c35, rfl, ⟨rfl, gi_addV hg hn hx_ (by rw [ec35, ec30, ec23]; exact ((kx.up (by decide)).tr (kx.up (by decide))).tr (kx.up (by decide))) (by rw [ec35, up_at, ud_at]) (by rw [ec35, up_at, ud_ne (by decide), ec30, ec23]; rfl) (by rw [ec35, ec30, ec23]; rfl) (by rw [ec35, ec30, ec23]; rfl), by rw [ec35, ec30, ec23]; exact ((kx.up (by decide)).tr (kx.up (by decide))).tr (kx.up (by decide))⟩, by show va_P _ _ _ t.heap; rw [ht]; exact hP⟩, hS.F ht⟩) hS.2.2 dX1_addVertex_39
theorem ae_end {G : gr_T} {c c65 c73 c81 c92 c102 c108 : Nat → Nat → Int32} {a b : Nat} {x : Int32} (hg : gi G c) (hE_ : gr_E G < 24) (ha : a < gr_n G) (hb_ : b < gr_n G) (hw1 : -9 ≤ x.toInt) (hw2 : x.toInt ≤ 9) (e65 : c65 = va_up c 9 (upd (c 9) (gr_E G) (nI a))) (e73 : c73 = va_up c65 10 (upd (c65 10) (gr_E G) (nI b))) (e81 : c81 = va_up c73 11 (upd (c73 11) (gr_E G) x)) (e92 : c92 = va_up c81 (22 + a) (upd (c81 (22 + a)) (gr_out G a).length (nI (gr_E G)))) (e102 : c102 = va_up c92 8 (upd (c92 8) a (nI ((gr_out G a).length + 1)))) (e108 : c108 = va_up c102 1 (upd (c102 1) 1 (nI (gr_E G + 1)))) : nI (gr_E G) = nI (gr_E G) ∧ gi (gr_addE G (nI a) (nI b) x) c108 ∧ kx [1, 8, 9, 10, 11, 22, 23, 24, 25, 26, 27, 28] c c108 := by
  have h7 := hg.n7
  have k81 : ∀ j, j ≠ 9 → j ≠ 10 → j ≠ 11 → c81 j = c j := fun j h9 h10 h11 => by rw [e81, up_ne h11, e73, up_ne h10, e65, up_ne h9]
  have k92 : ∀ j, j ≠ 22 + a → c92 j = c81 j := fun j h => by rw [e92, up_ne h]
  have k108 : ∀ j, j ≠ 1 → j ≠ 8 → c108 j = c92 j := fun j h1 h8 => by rw [e108, up_ne h1, e102, up_ne h8]
  refine ⟨rfl, gi_addE hg hE_ ha hb_ hw1 hw2 ?_ ?_ ?_ ?_ ?_ ?_ ?_ ?_ ?_ ?_, fun j hj => ?_⟩
  · rw [e108, up_at, ud_ne (by decide), e102, up_ne (by omega), k92 1 (by omega), k81 1 (by omega) (by omega) (by omega)]
  · rw [e108, up_at, ud_at]
  · rw [k108 6 (by omega) (by omega), k92 6 (by omega), k81 6 (by omega) (by omega) (by omega)]
  · rw [k108 7 (by omega) (by omega), k92 7 (by omega), k81 7 (by omega) (by omega) (by omega)]
  · rw [e108, up_ne (by omega), e102, up_at, k92 8 (by omega), k81 8 (by omega) (by omega) (by omega)]
  · rw [k108 9 (by omega) (by omega), k92 9 (by omega), e81, up_ne (by omega), e73, up_ne (by omega), e65, up_at]
  · rw [k108 10 (by omega) (by omega), k92 10 (by omega), e81, up_ne (by omega), e73, up_at, e65, up_ne (by omega)]
  · rw [k108 11 (by omega) (by omega), k92 11 (by omega), e81, up_at, e73, up_ne (by omega), e65, up_ne (by omega)]
  · rw [k108 (22 + a) (by omega) (by omega), e92, up_at, k81 (22 + a) (by omega) (by omega) (by omega)]
  · intro v hv hne
    rw [k108 (22 + v) (by omega) (by omega), k92 (22 + v) (by omega), k81 (22 + v) (by omega) (by omega) (by omega)]
  · simp only [List.mem_cons, List.not_mem_nil, or_false, not_or] at hj
    rw [k108 j (by omega) (by omega), k92 j (by omega), k81 j (by omega) (by omega) (by omega)]
theorem iw_X1_addEdge_X1 : ∀ w ∈ wsX10, w ∈ wsX1_addEdge := by decide +kernel
set_option maxHeartbeats 4000000 in
set_option maxRecDepth 100000 in
/--  -/
theorem ct_addEdge (l : Launch) (en : en_T) (ad : Nat → Nat) (c : Nat → Nat → Int32) (hI : xw_I ad) (sz : Nat) {G : gr_T} (hg : gi G c) (hE_ : gr_E G < 24) (a b : Nat) (x : Int32) (ha : a < gr_n G) (hb_ : b < gr_n G) (hw1 : -9 ≤ x.toInt) (hw2 : x.toInt ≤ 9) : Met l yX1_addEdge wsX1_addEdge (rm_ 2 0 0) (ct_Pc en [.ref (ad 1), .int (nI a), .int (nI b), .int x] (fun H => H.size = sz ∧ va_P en.1 vwCl (xw en ad c) H)) (va_Qi (fun r c' => r = nI (gr_E G) ∧ gi (gr_addE G (nI a) (nI b) x) c' ∧ kx [1, 8, 9, 10, 11, 22, 23, 24, 25, 26, 27, 28] c c') (fun c' t => va_P en.1 vwCl (xw en ad c') t.heap) (xw_A ad sz)) 0 0 (xw_A ad sz) := by
  refine Met.ofW (cc := cX1_addEdge) (maxL := 6) (ret := (some .int)) (by decide) rfl ?_
  intro p e s m args below meth co s₁ B hml hv
  obtain ⟨rfl, hE, hsz, hP⟩ := hv
  subst hsz
  have hx := B.exec
  have hb := B.bytes
  have hr := B.returns
  have hts := atoms_spec (ws := wsX1_addEdge) B.pre
  have hown : s.vm.findClass RX1 = some m.cls := findClass_of_methodNamed B.named
  have hlocks := B.notSynchronized
  have hS : va_S (xw_A ad s.heap.size) s.heap s.heap [] := va_S.rf
  have hl := lv_entry ([.ref (ad 1), .int (nI a), .int (nI b), .int x]) (n := 6) (Nat.le_of_ble_eq_true rfl)
  rw [lg_entry_eq]
  generalize (lg_sl ([.ref (ad 1), .int (nI a), .int (nI b), .int x]) ++ List.replicate (6 - (lg_sl ([.ref (ad 1), .int (nI a), .int (nI b), .int x])).length) Slot.unset).toArray = ls at hl ⊢
  have hl : lv_has ls 6 [(0, .ref (ad 1)), (1, .int (nI a)), (2, .int (nI b)), (3, .int x)] := hl
  have hn7 := hg.n7
  have hol := gr_out_len G a
  refine lv_aload_n hx hb dX1_addEdge_0 rfl (lv_at hl 0 rfl) ?_
  refine va_get (D := en.1) (ci := 1) (v := .int (c 1 1)) (C := RX1) (T := TX1) (N := 9) hx hb hts iw_X1_addEdge_X1 hown hE.1 hP 1 rfl rfl 8 (by decide) (hts (.fieldLink RX1 39 "CreditGame$Graph" "edgeCount" "I") (by decide +kernel)) (fun _ h9 => h9) rfl dX1_addEdge_1 ?_
  refine lv_topi (fun z_1 ez_1 => ?_)
  obtain rfl : z_1 = (nI (gr_E G)) := (ez_1.trans hg.ec)
  refine lv_istore (lv' := [(4, .int (nI (gr_E G))), (0, .ref (ad 1)), (1, .int (nI a)), (2, .int (nI b)), (3, .int x)]) hx hb dX1_addEdge_4 hl (by decide) rfl (fun ls hl => ?_)
  refine lv_iload hx hb dX1_addEdge_6 (lv_at hl 0 rfl) ?_
  refine lv_if_lt (tgt := 34) hx hb dX1_addEdge_8 (by decide) (fun b8 => absurd b8 (nI_pos (by omega))) (fun b8 => ?_)
  refine lv_iload hx hb dX1_addEdge_11 (lv_at hl 0 rfl) ?_
  refine lv_bipush (v := (nI 24)) hx hb dX1_addEdge_13 (by decide) ?_
  refine lv_icmp_ge (tgt := 34) hx hb dX1_addEdge_15 (by decide) (fun b15 => absurd b15 (nI_ge hE_ (by omega))) (fun b15 => ?_)
  refine lv_aload_n hx hb dX1_addEdge_18 rfl (lv_at hl 1 rfl) ?_
  refine lv_iload_n hx hb dX1_addEdge_19 rfl (lv_at hl 2 rfl) ?_
  refine ro_calli (va_runV (As := [.int (nI a)]) (rest := []) ⟨hx, hb, hml, hown, hts⟩ (ct_hasVertex l en ad c hg (nI a)) (cwV 1 hts gX1_addEdge_X1_hasVertex rfl rfl rfl (by decide +kernel) ⟨Nat.le_of_ble_eq_true rfl, Nat.le_of_ble_eq_true rfl⟩) (ct_preV hE (va_recv hE.1 hP (ci := 1) (q0 := 1) rfl rfl) hP) rfl rfl hl.1 rfl (lv_room (Nat.le_of_ble_eq_true rfl)) dX1_addEdge_20 ⟨Nat.le_of_ble_eq_true rfl, Nat.le_of_ble_eq_true rfl⟩) (fun r20 w20 => ?_)
  obtain rfl : r20 = 1 := hv_one ha w20
  refine lv_if_eq (tgt := 34) hx hb dX1_addEdge_23 (by decide) (fun b23 => absurd b23 (by decide)) (fun b23 => ?_)
  refine lv_aload_n hx hb dX1_addEdge_26 rfl (lv_at hl 1 rfl) ?_
  refine lv_iload_n hx hb dX1_addEdge_27 rfl (lv_at hl 3 rfl) ?_
  refine ro_calli (va_runV (As := [.int (nI b)]) (rest := []) ⟨hx, hb, hml, hown, hts⟩ (ct_hasVertex l en ad c hg (nI b)) (cwV 1 hts gX1_addEdge_X1_hasVertex rfl rfl rfl (by decide +kernel) ⟨Nat.le_of_ble_eq_true rfl, Nat.le_of_ble_eq_true rfl⟩) (ct_preV hE (va_recv hE.1 hP (ci := 1) (q0 := 1) rfl rfl) hP) rfl rfl hl.1 rfl (lv_room (Nat.le_of_ble_eq_true rfl)) dX1_addEdge_28 ⟨Nat.le_of_ble_eq_true rfl, Nat.le_of_ble_eq_true rfl⟩) (fun r28 w28 => ?_)
  obtain rfl : r28 = 1 := hv_one hb_ w28
  refine lv_if_ne (tgt := 36) hx hb dX1_addEdge_31 (by decide) (fun b31 => ?_) (fun b31 => absurd b31 (by decide))
  refine lv_aload_n hx hb dX1_addEdge_36 rfl (lv_at hl 1 rfl) ?_
  refine va_get (D := en.1) (ci := 1) (v := .ref (ad 8)) (C := RX1) (T := TX1) (N := 9) hx hb hts iw_X1_addEdge_X1 hown hE.1 hP 1 rfl rfl 2 (by decide) (hts (.fieldLink RX1 18 "CreditGame$Graph" "outCount" "[I") (by decide +kernel)) (fun _ h9 => h9) rfl dX1_addEdge_37 ?_
  refine lv_iload_n hx hb dX1_addEdge_40 rfl (lv_at hl 2 rfl) ?_
  refine xr_ild hx hb hE hP 8 (by decide) a rfl (show _ < 7 by omega) dX1_addEdge_41 ?_
  refine lv_topi (fun z_41 ez_41 => ?_)
  obtain rfl : z_41 = (nI (gr_out G a).length) := (ez_41.trans (hg.rows a (by omega)).1)
  refine lv_istore (lv' := [(5, .int (nI (gr_out G a).length)), (4, .int (nI (gr_E G))), (0, .ref (ad 1)), (1, .int (nI a)), (2, .int (nI b)), (3, .int x)]) hx hb dX1_addEdge_42 hl (by decide) rfl (fun ls hl => ?_)
  refine lv_iload hx hb dX1_addEdge_44 (lv_at hl 0 rfl) ?_
  refine lv_if_lt (tgt := 56) hx hb dX1_addEdge_46 (by decide) (fun b46 => absurd b46 (nI_pos (by omega))) (fun b46 => ?_)
  refine lv_iload hx hb dX1_addEdge_49 (lv_at hl 0 rfl) ?_
  refine lv_bipush (v := (nI 24)) hx hb dX1_addEdge_51 (by decide) ?_
  refine lv_icmp_lt (tgt := 58) hx hb dX1_addEdge_53 (by decide) (fun b53 => ?_) (fun b53 => absurd b53 (fun q => q (nI_lt (show (gr_out G a).length < 24 by omega) (by omega))))
  refine lv_aload_n hx hb dX1_addEdge_58 rfl (lv_at hl 2 rfl) ?_
  refine va_get (D := en.1) (ci := 1) (v := .ref (ad 9)) (C := RX1) (T := TX1) (N := 9) hx hb hts iw_X1_addEdge_X1 hown hE.1 hP 1 rfl rfl 4 (by decide) (hts (.fieldLink RX1 26 "CreditGame$Graph" "source" "[I") (by decide +kernel)) (fun _ h9 => h9) rfl dX1_addEdge_59 ?_
  refine lv_iload hx hb dX1_addEdge_62 (lv_at hl 1 rfl) ?_
  refine lv_iload_n hx hb dX1_addEdge_64 rfl (lv_at hl 3 rfl) ?_
  refine xr_ist hx hb hE hP hI hS 9 (by decide) (gr_E G) rfl (show _ < 24 by omega) dX1_addEdge_65 (fun H locs hP hS => ?_)
  obtain ⟨c65, ec65⟩ : ∃ z : Nat → Nat → Int32, z = va_up c 9 (upd (c 9) (gr_E G) (nI a)) := ⟨_, rfl⟩
  rw [← ec65] at hP
  refine lv_aload_n hx hb dX1_addEdge_66 rfl (lv_at hl 2 rfl) ?_
  refine va_get (D := en.1) (ci := 1) (v := .ref (ad 10)) (C := RX1) (T := TX1) (N := 9) hx hb hts iw_X1_addEdge_X1 hown hE.1 hP 1 rfl rfl 5 (by decide) (hts (.fieldLink RX1 29 "CreditGame$Graph" "target" "[I") (by decide +kernel)) (fun _ h9 => h9) rfl dX1_addEdge_67 ?_
  refine lv_iload hx hb dX1_addEdge_70 (lv_at hl 1 rfl) ?_
  refine lv_iload_n hx hb dX1_addEdge_72 rfl (lv_at hl 4 rfl) ?_
  refine xr_ist hx hb hE hP hI hS 10 (by decide) (gr_E G) rfl (show _ < 24 by omega) dX1_addEdge_73 (fun H locs hP hS => ?_)
  obtain ⟨c73, ec73⟩ : ∃ z : Nat → Nat → Int32, z = va_up c65 10 (upd (c65 10) (gr_E G) (nI b)) := ⟨_, rfl⟩
  rw [← ec73] at hP
  refine lv_aload_n hx hb dX1_addEdge_74 rfl (lv_at hl 2 rfl) ?_
  refine va_get (D := en.1) (ci := 1) (v := .ref (ad 11)) (C := RX1) (T := TX1) (N := 9) hx hb hts iw_X1_addEdge_X1 hown hE.1 hP 1 rfl rfl 6 (by decide) (hts (.fieldLink RX1 32 "CreditGame$Graph" "weight" "[I") (by decide +kernel)) (fun _ h9 => h9) rfl dX1_addEdge_75 ?_
  refine lv_iload hx hb dX1_addEdge_78 (lv_at hl 1 rfl) ?_
  refine lv_iload_n hx hb dX1_addEdge_80 rfl (lv_at hl 5 rfl) ?_
  refine xr_ist hx hb hE hP hI hS 11 (by decide) (gr_E G) rfl (show _ < 24 by omega) dX1_addEdge_81 (fun H locs hP hS => ?_)
  obtain ⟨c81, ec81⟩ : ∃ z : Nat → Nat → Int32, z = va_up c73 11 (upd (c73 11) (gr_E G) x) := ⟨_, rfl⟩
  rw [← ec81] at hP
  refine lv_aload_n hx hb dX1_addEdge_82 rfl (lv_at hl 2 rfl) ?_
  refine va_get (D := en.1) (ci := 1) (v := .ref (ad 21)) (C := RX1) (T := TX1) (N := 9) hx hb hts iw_X1_addEdge_X1 hown hE.1 hP 1 rfl rfl 3 (by decide) (hts (.fieldLink RX1 23 "CreditGame$Graph" "out" "[[I") (by decide +kernel)) (fun _ h9 => h9) rfl dX1_addEdge_83 ?_
  refine lv_iload_n hx hb dX1_addEdge_86 rfl (lv_at hl 3 rfl) ?_
  refine xr_ald hx hb hE hP a rfl (by omega) dX1_addEdge_87 ?_
  refine lv_iload hx hb dX1_addEdge_88 (lv_at hl 0 rfl) ?_
  refine lv_iload hx hb dX1_addEdge_90 (lv_at hl 1 rfl) ?_
  refine xr_ist hx hb hE hP hI hS (22 + a) (xw_row0 (by omega)) ((gr_out G a).length) rfl (xw_rowl (by omega) (by omega)) dX1_addEdge_92 (fun H locs hP hS => ?_)
  obtain ⟨c92, ec92⟩ : ∃ z : Nat → Nat → Int32, z = va_up c81 (22 + a) (upd (c81 (22 + a)) ((gr_out G a).length) (nI (gr_E G))) := ⟨_, rfl⟩
  rw [← ec92] at hP
  refine lv_aload_n hx hb dX1_addEdge_93 rfl (lv_at hl 2 rfl) ?_
  refine va_get (D := en.1) (ci := 1) (v := .ref (ad 8)) (C := RX1) (T := TX1) (N := 9) hx hb hts iw_X1_addEdge_X1 hown hE.1 hP 1 rfl rfl 2 (by decide) (hts (.fieldLink RX1 18 "CreditGame$Graph" "outCount" "[I") (by decide +kernel)) (fun _ h9 => h9) rfl dX1_addEdge_94 ?_
  refine lv_iload_n hx hb dX1_addEdge_97 rfl (lv_at hl 3 rfl) ?_
  refine lv_iload hx hb dX1_addEdge_98 (lv_at hl 0 rfl) ?_
  refine lv_iconst (v := 1) hx hb dX1_addEdge_100 (by decide) ?_
  refine lv_iadd hx hb dX1_addEdge_101 ?_
  refine lv_topi (fun z_101 ez_101 => ?_)
  obtain rfl : z_101 = (nI ((gr_out G a).length + 1)) := (ez_101.trans (nI_1 _))
  refine xr_ist hx hb hE hP hI hS 8 (by decide) a rfl (show _ < 7 by omega) dX1_addEdge_102 (fun H locs hP hS => ?_)
  obtain ⟨c102, ec102⟩ : ∃ z : Nat → Nat → Int32, z = va_up c92 8 (upd (c92 8) a (nI ((gr_out G a).length + 1))) := ⟨_, rfl⟩
  rw [← ec102] at hP
  refine lv_aload_n hx hb dX1_addEdge_103 rfl (lv_at hl 2 rfl) ?_
  refine lv_iload hx hb dX1_addEdge_104 (lv_at hl 1 rfl) ?_
  refine lv_iconst (v := 1) hx hb dX1_addEdge_106 (by decide) ?_
  refine lv_iadd hx hb dX1_addEdge_107 ?_
  refine lv_topi (fun z_107 ez_107 => ?_)
  obtain rfl : z_107 = (nI (gr_E G + 1)) := (ez_107.trans (nI_1 _))
  refine va_put (D := en.1) (ci := 1) (v := .int (nI (gr_E G + 1))) (ty := .int) (C := RX1) (T := TX1) (N := 9) hx hb hts iw_X1_addEdge_X1 tyX1 tyX1_ok nmX1 hown hE.1 hP (xw_D hI) hS 1 rfl rfl 8 (by decide) (hts (.fieldLink RX1 39 "CreditGame$Graph" "edgeCount" "I") (by decide +kernel)) (fun _ h9 => h9) rfl (by decide +kernel) rfl rfl (Nat.le_of_ble_eq_true rfl) dX1_addEdge_108 (fun H locs hP _ hS => ?_)
  have hP : va_P en.1 vwCl (xw en ad (va_up c102 1 (upd (c102 1) 1 (nI (gr_E G + 1))))) H := hP
  obtain ⟨c108, ec108⟩ : ∃ z : Nat → Nat → Int32, z = va_up c102 1 (upd (c102 1) 1 (nI (gr_E G + 1))) := ⟨_, rfl⟩
  rw [← ec108] at hP
  refine lv_iload hx hb dX1_addEdge_111 (lv_at hl 1 rfl) ?_
  exact W.iret (v := (nI (gr_E G))) hx hb hr (fun t ht hW => ⟨⟨_, c108, rfl, (ae_end hg hE_ ha hb_ hw1 hw2 ec65 ec73 ec81 ec92 ec102 ec108), by show va_P _ _ _ t.heap; rw [ht]; exact hP⟩, hS.F ht⟩) hS.2.2 dX1_addEdge_113
theorem iw_X1_setFixed_X1 : ∀ w ∈ wsX10, w ∈ wsX1_setFixed := by decide +kernel
set_option maxHeartbeats 4000000 in
set_option maxRecDepth 100000 in
/--  -/
theorem ct_setFixed (l : Launch) (en : en_T) (ad : Nat → Nat) (c : Nat → Nat → Int32) (hI : xw_I ad) (sz : Nat) {G : gr_T} (hg : gi G c) (j : Nat) (hj : j < gr_n G) (x : Int32) (hx_ : x = -1 ∨ ∃ e, e < gr_E G ∧ x = nI e ∧ gr_src G e = nI j) : Met l yX1_setFixed wsX1_setFixed (rm_ 2 0 0) (ct_Pc en [.ref (ad 1), .int (nI j), .int x] (fun H => H.size = sz ∧ va_P en.1 vwCl (xw en ad c) H)) (va_Qv (fun c' => gi (gr_setF G j x) c' ∧ kx [7] c c') (fun c' t => va_P en.1 vwCl (xw en ad c') t.heap) (xw_A ad sz)) 0 0 (xw_A ad sz) := by
  refine Met.ofW (cc := cX1_setFixed) (maxL := 3) (ret := none) (by decide) rfl ?_
  intro p e s m args below meth co s₁ B hml hv
  obtain ⟨rfl, hE, hsz, hP⟩ := hv
  subst hsz
  have hx := B.exec
  have hb := B.bytes
  have hr := B.returns
  have hts := atoms_spec (ws := wsX1_setFixed) B.pre
  have hown : s.vm.findClass RX1 = some m.cls := findClass_of_methodNamed B.named
  have hlocks := B.notSynchronized
  have hS : va_S (xw_A ad s.heap.size) s.heap s.heap [] := va_S.rf
  have hl := lv_entry ([.ref (ad 1), .int (nI j), .int x]) (n := 3) (Nat.le_of_ble_eq_true rfl)
  rw [lg_entry_eq]
  generalize (lg_sl ([.ref (ad 1), .int (nI j), .int x]) ++ List.replicate (3 - (lg_sl ([.ref (ad 1), .int (nI j), .int x])).length) Slot.unset).toArray = ls at hl ⊢
  have hl : lv_has ls 3 [(0, .ref (ad 1)), (1, .int (nI j)), (2, .int x)] := hl
  refine lv_aload_n hx hb dX1_setFixed_0 rfl (lv_at hl 0 rfl) ?_
  refine lv_iload_n hx hb dX1_setFixed_1 rfl (lv_at hl 1 rfl) ?_
  refine ro_calli (va_runV (As := [.int (nI j)]) (rest := []) ⟨hx, hb, hml, hown, hts⟩ (ct_hasVertex l en ad c hg (nI j)) (cwV 1 hts gX1_setFixed_X1_hasVertex rfl rfl rfl (by decide +kernel) ⟨Nat.le_of_ble_eq_true rfl, Nat.le_of_ble_eq_true rfl⟩) (ct_preV hE (va_recv hE.1 hP (ci := 1) (q0 := 1) rfl rfl) hP) rfl rfl hl.1 rfl (lv_room (Nat.le_of_ble_eq_true rfl)) dX1_setFixed_2 ⟨Nat.le_of_ble_eq_true rfl, Nat.le_of_ble_eq_true rfl⟩) (fun r2 w2 => ?_)
  obtain rfl : r2 = 1 := hv_one hj w2
  refine lv_if_eq (tgt := 15) hx hb dX1_setFixed_5 (by decide) (fun b5 => absurd b5 (by decide)) (fun b5 => ?_)
  refine lv_aload_n hx hb dX1_setFixed_8 rfl (lv_at hl 0 rfl) ?_
  refine va_get (D := en.1) (ci := 1) (v := .ref (ad 7)) (C := RX1) (T := TX1) (N := 9) hx hb hts iw_X1_setFixed_X1 hown hE.1 hP 1 rfl rfl 1 (by decide) (hts (.fieldLink RX1 15 "CreditGame$Graph" "fixedTo" "[I") (by decide +kernel)) (fun _ h9 => h9) rfl dX1_setFixed_9 ?_
  refine lv_iload_n hx hb dX1_setFixed_12 rfl (lv_at hl 1 rfl) ?_
  refine lv_iload_n hx hb dX1_setFixed_13 rfl (lv_at hl 2 rfl) ?_
  refine xr_ist hx hb hE hP hI hS 7 (by decide) j rfl (show _ < 7 by have := hg.n7; omega) dX1_setFixed_14 (fun H locs hP hS => ?_)
  obtain ⟨c14, ec14⟩ : ∃ z : Nat → Nat → Int32, z = va_up c 7 (upd (c 7) j x) := ⟨_, rfl⟩
  rw [← ec14] at hP
  exact W.vret hx hb hr (fun t ht hW => ⟨⟨c14, rfl, ⟨gi_setF hg hx_ ec14, by rw [ec14]; exact kx.up (by decide)⟩, by show va_P _ _ _ t.heap; rw [ht]; exact hP⟩, hS.F ht⟩) hS.2.2 dX1_setFixed_15
