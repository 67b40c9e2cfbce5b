/-! ===== CreditGameModel: vertex, edge, fix, fixed, refuses ===== -/
theorem iw_X5_vertex_X5 : ∀ w ∈ wsX50, w ∈ wsX5_vertex := by decide +kernel
set_option maxHeartbeats 4000000 in
set_option maxRecDepth 100000 in
/--  -/
theorem cm_vertex (l : Launch) (en : en_T) (bd : Nat → Nat) (d : mT) (hI : mw_I bd) (sz : Nat) {G : gr_T} (hc_ : mci G d) (x : Int32) : Met l yX5_vertex wsX5_vertex (rm_ 1 0 0) (ct_Pc en [.ref (bd 0), .int x] (fun H => H.size = sz ∧ va_P en.1 vwCl (mw en bd d) H)) (va_Qi (fun r d' => (¬ (x = 0 ∨ x = 1) ∧ d'.1 0 0 = 1 ∧ mci G d') ∨ ((x = 0 ∨ x = 1) ∧ ¬ gr_n G < 7 ∧ d'.1 0 0 = 2 ∧ mci G d') ∨ ((x = 0 ∨ x = 1) ∧ gr_n G < 7 ∧ d'.1 0 0 = 0 ∧ r = nI (gr_n G) ∧ mci (gr_addV G x) d')) (fun d' t => va_P en.1 vwCl (mw en bd d') t.heap) (mw_A bd sz)) 0 0 (mw_A bd sz) := by
  refine Met.ofW (cc := cX5_vertex) (maxL := 2) (ret := (some .int)) (by decide) rfl ?_
  intro p e s m args below meth co s₁ B hml hv
  obtain ⟨rfl, hE, hsz, hP⟩ := hv
  subst hsz
  have hx := B.exec
  have hb := B.bytes
  have hr := B.returns
  have hts := atoms_spec (ws := wsX5_vertex) B.pre
  have hown : s.vm.findClass RX5 = some m.cls := findClass_of_methodNamed B.named
  have hlocks := B.notSynchronized
  have hS : va_S (mw_A bd s.heap.size) s.heap s.heap [] := va_S.rf
  have hl := lv_entry ([.ref (bd 0), .int x]) (n := 2) (Nat.le_of_ble_eq_true rfl)
  rw [lg_entry_eq]
  generalize (lg_sl ([.ref (bd 0), .int x]) ++ List.replicate (2 - (lg_sl ([.ref (bd 0), .int x])).length) Slot.unset).toArray = ls at hl ⊢
  have hl : lv_has ls 2 [(0, .ref (bd 0)), (1, .int x)] := hl
  have hm := hc_.1
  have hn7 := hm.n7
  have he24 := hm.e24
  refine lv_aload_n hx hb dX5_vertex_0 rfl (lv_at hl 0 rfl) ?_
  refine lv_iload_n hx hb dX5_vertex_1 rfl (lv_at hl 1 rfl) ?_
  refine lv_if_eq (tgt := 14) hx hb dX5_vertex_2 (by decide) (fun b2 => ?_) (fun b2 => ?_)
  · skip
    have hpl : (x = 0 ∨ x = 1) := Or.inl b2
    refine lv_aload_n hx hb dX5_vertex_14 rfl (lv_at hl 0 rfl) ?_
    refine va_get (D := en.1) (ci := 5) (v := .int (d.1 0 1)) (C := RX5) (T := TX5) (N := 16) hx hb hts iw_X5_vertex_X5 hown hE.1 hP 0 rfl rfl 1 (by decide) (hts (.fieldLink RX5 51 "CreditGameModel" "vertices" "I") (by decide +kernel)) (fun _ h9 => h9) rfl dX5_vertex_15 ?_
    refine lv_topi (fun z_15 ez_15 => ?_)
    obtain rfl : z_15 = (nI (gr_n G)) := (ez_15.trans hm.2.1)
    refine lv_bipush (v := (nI 7)) hx hb dX5_vertex_18 (by decide) ?_
    refine lv_icmp_ne (tgt := 27) hx hb dX5_vertex_20 (by decide) (fun b20 => ?_) (fun b20 => ?_)
    · skip
      have hn_ : gr_n G < 7 := by
        rcases Nat.lt_or_ge (gr_n G) 7 with q | q
        · exact q
        · exact absurd (by rw [show gr_n G = 7 by omega]) b20
      skip
      refine lv_iconst (v := 0) hx hb dX5_vertex_27 (by decide) ?_
      refine va_put (D := en.1) (ci := 5) (v := .int 0) (ty := .int) (C := RX5) (T := TX5) (N := 16) hx hb hts iw_X5_vertex_X5 tyX5 tyX5_ok nmX5 hown hE.1 hP (mw_D hI) hS 0 rfl rfl 0 (by decide) (hts (.fieldLink RX5 47 "CreditGameModel" "thrown" "I") (by decide +kernel)) (fun _ h9 => h9) rfl (by decide +kernel) rfl rfl (Nat.le_of_ble_eq_true rfl) dX5_vertex_28 (fun H locs hP _ hS => ?_)
      have hP : va_P en.1 vwCl (mw en bd (va_up d.1 0 (upd (d.1 0) 0 0), d.2)) H := hP
      obtain ⟨d28, ed28⟩ : ∃ z : mT, z = (va_up d.1 0 (upd (d.1 0) 0 0), d.2) := ⟨_, rfl⟩
      rw [← ed28] at hP
      have ht28 : mth d d28 _ := ed28
      have hm1 := ht28.mi hm
      refine lv_aload_n hx hb dX5_vertex_31 rfl (lv_at hl 0 rfl) ?_
      refine va_get (D := en.1) (ci := 5) (v := .int (d28.1 0 0)) (C := RX5) (T := TX5) (N := 16) hx hb hts iw_X5_vertex_X5 hown hE.1 hP 0 rfl rfl 0 (by decide) (hts (.fieldLink RX5 47 "CreditGameModel" "thrown" "I") (by decide +kernel)) (fun _ h9 => h9) rfl dX5_vertex_32 ?_
      refine lv_topi (fun z_32 ez_32 => ?_)
      obtain rfl : z_32 = 0 := (ez_32.trans (by rw [ed28]; rfl))
      refine lv_if_le (tgt := 40) hx hb dX5_vertex_35 (by decide) (fun b35 => ?_) (fun b35 => absurd b35 (fun q => q (by decide)))
      refine lv_aload_n hx hb dX5_vertex_40 rfl (lv_at hl 0 rfl) ?_
      refine va_get (D := en.1) (ci := 5) (v := .ref (bd 1)) (C := RX5) (T := TX5) (N := 16) hx hb hts iw_X5_vertex_X5 hown hE.1 hP 0 rfl rfl 2 (by decide) (hts (.fieldLink RX5 7 "CreditGameModel" "player" "[I") (by decide +kernel)) (fun _ h9 => h9) rfl dX5_vertex_41 ?_
      refine lv_aload_n hx hb dX5_vertex_44 rfl (lv_at hl 0 rfl) ?_
      refine va_get (D := en.1) (ci := 5) (v := .int (d28.1 0 1)) (C := RX5) (T := TX5) (N := 16) hx hb hts iw_X5_vertex_X5 hown hE.1 hP 0 rfl rfl 1 (by decide) (hts (.fieldLink RX5 51 "CreditGameModel" "vertices" "I") (by decide +kernel)) (fun _ h9 => h9) rfl dX5_vertex_45 ?_
      refine lv_topi (fun z_45 ez_45 => ?_)
      obtain rfl : z_45 = (nI (gr_n G)) := (ez_45.trans hm1.2.1)
      refine lv_iload_n hx hb dX5_vertex_48 rfl (lv_at hl 1 rfl) ?_
      refine mr_ist hx hb hE hP hI hS 1 (by decide) (gr_n G) rfl (show _ < 7 by omega) dX5_vertex_49 (fun H locs hP hS => ?_)
      obtain ⟨d49, ed49⟩ : ∃ z : mT, z = (va_up d28.1 1 (upd (d28.1 1) (gr_n G) x), d28.2) := ⟨_, rfl⟩
      rw [← ed49] at hP
      refine lv_aload_n hx hb dX5_vertex_50 rfl (lv_at hl 0 rfl) ?_
      refine va_get (D := en.1) (ci := 5) (v := .ref (bd 2)) (C := RX5) (T := TX5) (N := 16) hx hb hts iw_X5_vertex_X5 hown hE.1 hP 0 rfl rfl 3 (by decide) (hts (.fieldLink RX5 13 "CreditGameModel" "fixedTo" "[I") (by decide +kernel)) (fun _ h9 => h9) rfl dX5_vertex_51 ?_
      refine lv_aload_n hx hb dX5_vertex_54 rfl (lv_at hl 0 rfl) ?_
      refine va_get (D := en.1) (ci := 5) (v := .int (d49.1 0 1)) (C := RX5) (T := TX5) (N := 16) hx hb hts iw_X5_vertex_X5 hown hE.1 hP 0 rfl rfl 1 (by decide) (hts (.fieldLink RX5 51 "CreditGameModel" "vertices" "I") (by decide +kernel)) (fun _ h9 => h9) rfl dX5_vertex_55 ?_
      refine lv_topi (fun z_55 ez_55 => ?_)
      obtain rfl : z_55 = (nI (gr_n G)) := (ez_55.trans (by rw [ed49]; exact hm1.2.1))
      refine lv_iconst (v := (-1)) hx hb dX5_vertex_58 (by decide) ?_
      refine mr_ist hx hb hE hP hI hS 2 (by decide) (gr_n G) rfl (show _ < 7 by omega) dX5_vertex_59 (fun H locs hP hS => ?_)
      obtain ⟨d59, ed59⟩ : ∃ z : mT, z = (va_up d49.1 2 (upd (d49.1 2) (gr_n G) (-1)), d49.2) := ⟨_, rfl⟩
      rw [← ed59] at hP
      refine lv_aload_n hx hb dX5_vertex_60 rfl (lv_at hl 0 rfl) ?_
      refine lv_dup hx hb dX5_vertex_61 rfl ?_
      refine va_get (D := en.1) (ci := 5) (v := .int (d59.1 0 1)) (C := RX5) (T := TX5) (N := 16) hx hb hts iw_X5_vertex_X5 hown hE.1 hP 0 rfl rfl 1 (by decide) (hts (.fieldLink RX5 51 "CreditGameModel" "vertices" "I") (by decide +kernel)) (fun _ h9 => h9) rfl dX5_vertex_62 ?_
      refine lv_topi (fun z_62 ez_62 => ?_)
      obtain rfl : z_62 = (nI (gr_n G)) := (ez_62.trans (by rw [ed59, ed49]; exact hm1.2.1))
      refine lv_iconst (v := 1) hx hb dX5_vertex_65 (by decide) ?_
      refine lv_iadd hx hb dX5_vertex_66 ?_
      refine lv_topi (fun z_66 ez_66 => ?_)
      obtain rfl : z_66 = (nI (gr_n G + 1)) := (ez_66.trans (nI_1 _))
      refine va_put (D := en.1) (ci := 5) (v := .int (nI (gr_n G + 1))) (ty := .int) (C := RX5) (T := TX5) (N := 16) hx hb hts iw_X5_vertex_X5 tyX5 tyX5_ok nmX5 hown hE.1 hP (mw_D hI) hS 0 rfl rfl 1 (by decide) (hts (.fieldLink RX5 51 "CreditGameModel" "vertices" "I") (by decide +kernel)) (fun _ h9 => h9) rfl (by decide +kernel) rfl rfl (Nat.le_of_ble_eq_true rfl) dX5_vertex_67 (fun H locs hP _ hS => ?_)
      have hP : va_P en.1 vwCl (mw en bd (va_up d59.1 0 (upd (d59.1 0) 1 (nI (gr_n G + 1))), d59.2)) H := hP
      obtain ⟨d67, ed67⟩ : ∃ z : mT, z = (va_up d59.1 0 (upd (d59.1 0) 1 (nI (gr_n G + 1))), d59.2) := ⟨_, rfl⟩
      rw [← ed67] at hP
      refine lv_aload_n hx hb dX5_vertex_70 rfl (lv_at hl 0 rfl) ?_
      refine lv_iconst (v := 0) hx hb dX5_vertex_71 (by decide) ?_
      refine va_put (D := en.1) (ci := 5) (v := .int 0) (ty := .boolean) (C := RX5) (T := TX5) (N := 16) hx hb hts iw_X5_vertex_X5 tyX5 tyX5_ok nmX5 hown hE.1 hP (mw_D hI) hS 0 rfl rfl 8 (by decide) (hts (.fieldLink RX5 61 "CreditGameModel" "known" "Z") (by decide +kernel)) (fun _ h9 => h9) rfl (by decide +kernel) rfl rfl (Nat.le_of_ble_eq_true rfl) dX5_vertex_72 (fun H locs hP _ hS => ?_)
      have hP : va_P en.1 vwCl (mw en bd (va_up d67.1 0 (upd (d67.1 0) 3 0), d67.2)) H := hP
      obtain ⟨d72, ed72⟩ : ∃ z : mT, z = (va_up d67.1 0 (upd (d67.1 0) 3 0), d67.2) := ⟨_, rfl⟩
      rw [← ed72] at hP
      refine lv_aload_n hx hb dX5_vertex_75 rfl (lv_at hl 0 rfl) ?_
      refine va_get (D := en.1) (ci := 5) (v := .int (d72.1 0 1)) (C := RX5) (T := TX5) (N := 16) hx hb hts iw_X5_vertex_X5 hown hE.1 hP 0 rfl rfl 1 (by decide) (hts (.fieldLink RX5 51 "CreditGameModel" "vertices" "I") (by decide +kernel)) (fun _ h9 => h9) rfl dX5_vertex_76 ?_
      refine lv_topi (fun z_76 ez_76 => ?_)
      obtain rfl : z_76 = (nI (gr_n G + 1)) := (ez_76.trans (by rw [ed72, ed67]; rfl))
      refine lv_iconst (v := 1) hx hb dX5_vertex_79 (by decide) ?_
      refine lv_isub hx hb dX5_vertex_80 ?_
      refine lv_topi (fun z_80 ez_80 => ?_)
      obtain rfl : z_80 = (nI (gr_n G)) := (ez_80.trans (nI_pred _))
      exact W.iret (v := (nI (gr_n G))) hx hb hr (fun t ht hW => ⟨⟨_, d72, rfl, (Or.inr (Or.inr ⟨hpl, hn_, by rw [ed72, ed67, ed59, ed49]; exact ht28.thr, rfl, mi_addV hm1 hn_ hpl (by rw [ed72, ed67]; rfl) (by rw [ed72, ed67, ed59, ed49]; rfl) (by rw [ed72, ed67, ed59, ed49]; rfl) (by rw [ed72, ed67, ed59, ed49]; rfl) (fun k h1 h2 => by rw [ed72, ed67, ed59, ed49]; rcases (show k = 3 ∨ k = 4 ∨ k = 5 by omega) with rfl | rfl | rfl <;> rfl), mkn_0 (by rw [ed72]; rfl)⟩)), by show va_P _ _ _ t.heap; rw [ht]; exact hP⟩, hS.F ht⟩) hS.2.2 dX5_vertex_81
    · skip
      have hn_ : ¬ gr_n G < 7 := by rw [(nI_eq (by omega) (by omega)).mp b20]; omega
      skip
      refine lv_iconst (v := 2) hx hb dX5_vertex_23 (by decide) ?_
      refine lv_goto (tgt := 28) hx hb dX5_vertex_24 (by decide) ?_
      refine va_put (D := en.1) (ci := 5) (v := .int 2) (ty := .int) (C := RX5) (T := TX5) (N := 16) hx hb hts iw_X5_vertex_X5 tyX5 tyX5_ok nmX5 hown hE.1 hP (mw_D hI) hS 0 rfl rfl 0 (by decide) (hts (.fieldLink RX5 47 "CreditGameModel" "thrown" "I") (by decide +kernel)) (fun _ h9 => h9) rfl (by decide +kernel) rfl rfl (Nat.le_of_ble_eq_true rfl) dX5_vertex_28 (fun H locs hP _ hS => ?_)
      have hP : va_P en.1 vwCl (mw en bd (va_up d.1 0 (upd (d.1 0) 0 2), d.2)) H := hP
      obtain ⟨d28, ed28⟩ : ∃ z : mT, z = (va_up d.1 0 (upd (d.1 0) 0 2), d.2) := ⟨_, rfl⟩
      rw [← ed28] at hP
      have ht28 : mth d d28 _ := ed28
      have hm1 := ht28.mi hm
      refine lv_aload_n hx hb dX5_vertex_31 rfl (lv_at hl 0 rfl) ?_
      refine va_get (D := en.1) (ci := 5) (v := .int (d28.1 0 0)) (C := RX5) (T := TX5) (N := 16) hx hb hts iw_X5_vertex_X5 hown hE.1 hP 0 rfl rfl 0 (by decide) (hts (.fieldLink RX5 47 "CreditGameModel" "thrown" "I") (by decide +kernel)) (fun _ h9 => h9) rfl dX5_vertex_32 ?_
      refine lv_topi (fun z_32 ez_32 => ?_)
      obtain rfl : z_32 = 2 := (ez_32.trans (by rw [ed28]; rfl))
      refine lv_if_le (tgt := 40) hx hb dX5_vertex_35 (by decide) (fun b35 => absurd b35 (by decide)) (fun b35 => ?_)
      refine lv_iconst (v := 0) hx hb dX5_vertex_38 (by decide) ?_
      exact W.iret (v := 0) hx hb hr (fun t ht hW => ⟨⟨_, d28, rfl, (Or.inr (Or.inl ⟨hpl, hn_, ht28.thr, ht28.mci hc_⟩)), by show va_P _ _ _ t.heap; rw [ht]; exact hP⟩, hS.F ht⟩) hS.2.2 dX5_vertex_39
  · skip
    refine lv_iload_n hx hb dX5_vertex_5 rfl (lv_at hl 1 rfl) ?_
    refine lv_iconst (v := 1) hx hb dX5_vertex_6 (by decide) ?_
    refine lv_icmp_eq (tgt := 14) hx hb dX5_vertex_7 (by decide) (fun b7 => ?_) (fun b7 => ?_)
    · skip
      have hpl : (x = 0 ∨ x = 1) := Or.inr b7
      refine lv_aload_n hx hb dX5_vertex_14 rfl (lv_at hl 0 rfl) ?_
      refine va_get (D := en.1) (ci := 5) (v := .int (d.1 0 1)) (C := RX5) (T := TX5) (N := 16) hx hb hts iw_X5_vertex_X5 hown hE.1 hP 0 rfl rfl 1 (by decide) (hts (.fieldLink RX5 51 "CreditGameModel" "vertices" "I") (by decide +kernel)) (fun _ h9 => h9) rfl dX5_vertex_15 ?_
      refine lv_topi (fun z_15 ez_15 => ?_)
      obtain rfl : z_15 = (nI (gr_n G)) := (ez_15.trans hm.2.1)
      refine lv_bipush (v := (nI 7)) hx hb dX5_vertex_18 (by decide) ?_
      refine lv_icmp_ne (tgt := 27) hx hb dX5_vertex_20 (by decide) (fun b20 => ?_) (fun b20 => ?_)
      · skip
        have hn_ : gr_n G < 7 := by
          rcases Nat.lt_or_ge (gr_n G) 7 with q | q
          · exact q
          · exact absurd (by rw [show gr_n G = 7 by omega]) b20
        skip
        refine lv_iconst (v := 0) hx hb dX5_vertex_27 (by decide) ?_
        refine va_put (D := en.1) (ci := 5) (v := .int 0) (ty := .int) (C := RX5) (T := TX5) (N := 16) hx hb hts iw_X5_vertex_X5 tyX5 tyX5_ok nmX5 hown hE.1 hP (mw_D hI) hS 0 rfl rfl 0 (by decide) (hts (.fieldLink RX5 47 "CreditGameModel" "thrown" "I") (by decide +kernel)) (fun _ h9 => h9) rfl (by decide +kernel) rfl rfl (Nat.le_of_ble_eq_true rfl) dX5_vertex_28 (fun H locs hP _ hS => ?_)
        have hP : va_P en.1 vwCl (mw en bd (va_up d.1 0 (upd (d.1 0) 0 0), d.2)) H := hP
        obtain ⟨d28, ed28⟩ : ∃ z : mT, z = (va_up d.1 0 (upd (d.1 0) 0 0), d.2) := ⟨_, rfl⟩
        rw [← ed28] at hP
        have ht28 : mth d d28 _ := ed28
        have hm1 := ht28.mi hm
        refine lv_aload_n hx hb dX5_vertex_31 rfl (lv_at hl 0 rfl) ?_
        refine va_get (D := en.1) (ci := 5) (v := .int (d28.1 0 0)) (C := RX5) (T := TX5) (N := 16) hx hb hts iw_X5_vertex_X5 hown hE.1 hP 0 rfl rfl 0 (by decide) (hts (.fieldLink RX5 47 "CreditGameModel" "thrown" "I") (by decide +kernel)) (fun _ h9 => h9) rfl dX5_vertex_32 ?_
        refine lv_topi (fun z_32 ez_32 => ?_)
        obtain rfl : z_32 = 0 := (ez_32.trans (by rw [ed28]; rfl))
        refine lv_if_le (tgt := 40) hx hb dX5_vertex_35 (by decide) (fun b35 => ?_) (fun b35 => absurd b35 (fun q => q (by decide)))
        refine lv_aload_n hx hb dX5_vertex_40 rfl (lv_at hl 0 rfl) ?_
        refine va_get (D := en.1) (ci := 5) (v := .ref (bd 1)) (C := RX5) (T := TX5) (N := 16) hx hb hts iw_X5_vertex_X5 hown hE.1 hP 0 rfl rfl 2 (by decide) (hts (.fieldLink RX5 7 "CreditGameModel" "player" "[I") (by decide +kernel)) (fun _ h9 => h9) rfl dX5_vertex_41 ?_
        refine lv_aload_n hx hb dX5_vertex_44 rfl (lv_at hl 0 rfl) ?_
        refine va_get (D := en.1) (ci := 5) (v := .int (d28.1 0 1)) (C := RX5) (T := TX5) (N := 16) hx hb hts iw_X5_vertex_X5 hown hE.1 hP 0 rfl rfl 1 (by decide) (hts (.fieldLink RX5 51 "CreditGameModel" "vertices" "I") (by decide +kernel)) (fun _ h9 => h9) rfl dX5_vertex_45 ?_
        refine lv_topi (fun z_45 ez_45 => ?_)
        obtain rfl : z_45 = (nI (gr_n G)) := (ez_45.trans hm1.2.1)
        refine lv_iload_n hx hb dX5_vertex_48 rfl (lv_at hl 1 rfl) ?_
        refine mr_ist hx hb hE hP hI hS 1 (by decide) (gr_n G) rfl (show _ < 7 by omega) dX5_vertex_49 (fun H locs hP hS => ?_)
        obtain ⟨d49, ed49⟩ : ∃ z : mT, z = (va_up d28.1 1 (upd (d28.1 1) (gr_n G) x), d28.2) := ⟨_, rfl⟩
        rw [← ed49] at hP
        refine lv_aload_n hx hb dX5_vertex_50 rfl (lv_at hl 0 rfl) ?_
        refine va_get (D := en.1) (ci := 5) (v := .ref (bd 2)) (C := RX5) (T := TX5) (N := 16) hx hb hts iw_X5_vertex_X5 hown hE.1 hP 0 rfl rfl 3 (by decide) (hts (.fieldLink RX5 13 "CreditGameModel" "fixedTo" "[I") (by decide +kernel)) (fun _ h9 => h9) rfl dX5_vertex_51 ?_
        refine lv_aload_n hx hb dX5_vertex_54 rfl (lv_at hl 0 rfl) ?_
        refine va_get (D := en.1) (ci := 5) (v := .int (d49.1 0 1)) (C := RX5) (T := TX5) (N := 16) hx hb hts iw_X5_vertex_X5 hown hE.1 hP 0 rfl rfl 1 (by decide) (hts (.fieldLink RX5 51 "CreditGameModel" "vertices" "I") (by decide +kernel)) (fun _ h9 => h9) rfl dX5_vertex_55 ?_
        refine lv_topi (fun z_55 ez_55 => ?_)
        obtain rfl : z_55 = (nI (gr_n G)) := (ez_55.trans (by rw [ed49]; exact hm1.2.1))
        refine lv_iconst (v := (-1)) hx hb dX5_vertex_58 (by decide) ?_
        refine mr_ist hx hb hE hP hI hS 2 (by decide) (gr_n G) rfl (show _ < 7 by omega) dX5_vertex_59 (fun H locs hP hS => ?_)
        obtain ⟨d59, ed59⟩ : ∃ z : mT, z = (va_up d49.1 2 (upd (d49.1 2) (gr_n G) (-1)), d49.2) := ⟨_, rfl⟩
        rw [← ed59] at hP
        refine lv_aload_n hx hb dX5_vertex_60 rfl (lv_at hl 0 rfl) ?_
        refine lv_dup hx hb dX5_vertex_61 rfl ?_
        refine va_get (D := en.1) (ci := 5) (v := .int (d59.1 0 1)) (C := RX5) (T := TX5) (N := 16) hx hb hts iw_X5_vertex_X5 hown hE.1 hP 0 rfl rfl 1 (by decide) (hts (.fieldLink RX5 51 "CreditGameModel" "vertices" "I") (by decide +kernel)) (fun _ h9 => h9) rfl dX5_vertex_62 ?_
        refine lv_topi (fun z_62 ez_62 => ?_)
        obtain rfl : z_62 = (nI (gr_n G)) := (ez_62.trans (by rw [ed59, ed49]; exact hm1.2.1))
        refine lv_iconst (v := 1) hx hb dX5_vertex_65 (by decide) ?_
        refine lv_iadd hx hb dX5_vertex_66 ?_
        refine lv_topi (fun z_66 ez_66 => ?_)
        obtain rfl : z_66 = (nI (gr_n G + 1)) := (ez_66.trans (nI_1 _))
        refine va_put (D := en.1) (ci := 5) (v := .int (nI (gr_n G + 1))) (ty := .int) (C := RX5) (T := TX5) (N := 16) hx hb hts iw_X5_vertex_X5 tyX5 tyX5_ok nmX5 hown hE.1 hP (mw_D hI) hS 0 rfl rfl 1 (by decide) (hts (.fieldLink RX5 51 "CreditGameModel" "vertices" "I") (by decide +kernel)) (fun _ h9 => h9) rfl (by decide +kernel) rfl rfl (Nat.le_of_ble_eq_true rfl) dX5_vertex_67 (fun H locs hP _ hS => ?_)
        have hP : va_P en.1 vwCl (mw en bd (va_up d59.1 0 (upd (d59.1 0) 1 (nI (gr_n G + 1))), d59.2)) H := hP
        obtain ⟨d67, ed67⟩ : ∃ z : mT, z = (va_up d59.1 0 (upd (d59.1 0) 1 (nI (gr_n G + 1))), d59.2) := ⟨_, rfl⟩
        rw [← ed67] at hP
        refine lv_aload_n hx hb dX5_vertex_70 rfl (lv_at hl 0 rfl) ?_
        refine lv_iconst (v := 0) hx hb dX5_vertex_71 (by decide) ?_
        refine va_put (D := en.1) (ci := 5) (v := .int 0) (ty := .boolean) (C := RX5) (T := TX5) (N := 16) hx hb hts iw_X5_vertex_X5 tyX5 tyX5_ok nmX5 hown hE.1 hP (mw_D hI) hS 0 rfl rfl 8 (by decide) (hts (.fieldLink RX5 61 "CreditGameModel" "known" "Z") (by decide +kernel)) (fun _ h9 => h9) rfl (by decide +kernel) rfl rfl (Nat.le_of_ble_eq_true rfl) dX5_vertex_72 (fun H locs hP _ hS => ?_)
        have hP : va_P en.1 vwCl (mw en bd (va_up d67.1 0 (upd (d67.1 0) 3 0), d67.2)) H := hP
        obtain ⟨d72, ed72⟩ : ∃ z : mT, z = (va_up d67.1 0 (upd (d67.1 0) 3 0), d67.2) := ⟨_, rfl⟩
        rw [← ed72] at hP
        refine lv_aload_n hx hb dX5_vertex_75 rfl (lv_at hl 0 rfl) ?_
        refine va_get (D := en.1) (ci := 5) (v := .int (d72.1 0 1)) (C := RX5) (T := TX5) (N := 16) hx hb hts iw_X5_vertex_X5 hown hE.1 hP 0 rfl rfl 1 (by decide) (hts (.fieldLink RX5 51 "CreditGameModel" "vertices" "I") (by decide +kernel)) (fun _ h9 => h9) rfl dX5_vertex_76 ?_
        refine lv_topi (fun z_76 ez_76 => ?_)
        obtain rfl : z_76 = (nI (gr_n G + 1)) := (ez_76.trans (by rw [ed72, ed67]; rfl))
        refine lv_iconst (v := 1) hx hb dX5_vertex_79 (by decide) ?_
        refine lv_isub hx hb dX5_vertex_80 ?_
        refine lv_topi (fun z_80 ez_80 => ?_)
        obtain rfl : z_80 = (nI (gr_n G)) := (ez_80.trans (nI_pred _))
        exact W.iret (v := (nI (gr_n G))) hx hb hr (fun t ht hW => ⟨⟨_, d72, rfl, (Or.inr (Or.inr ⟨hpl, hn_, by rw [ed72, ed67, ed59, ed49]; exact ht28.thr, rfl, mi_addV hm1 hn_ hpl (by rw [ed72, ed67]; rfl) (by rw [ed72, ed67, ed59, ed49]; rfl) (by rw [ed72, ed67, ed59, ed49]; rfl) (by rw [ed72, ed67, ed59, ed49]; rfl) (fun k h1 h2 => by rw [ed72, ed67, ed59, ed49]; rcases (show k = 3 ∨ k = 4 ∨ k = 5 by omega) with rfl | rfl | rfl <;> rfl), mkn_0 (by rw [ed72]; rfl)⟩)), by show va_P _ _ _ t.heap; rw [ht]; exact hP⟩, hS.F ht⟩) hS.2.2 dX5_vertex_81
      · skip
        have hn_ : ¬ gr_n G < 7 := by rw [(nI_eq (by omega) (by omega)).mp b20]; omega
        skip
        refine lv_iconst (v := 2) hx hb dX5_vertex_23 (by decide) ?_
        refine lv_goto (tgt := 28) hx hb dX5_vertex_24 (by decide) ?_
        refine va_put (D := en.1) (ci := 5) (v := .int 2) (ty := .int) (C := RX5) (T := TX5) (N := 16) hx hb hts iw_X5_vertex_X5 tyX5 tyX5_ok nmX5 hown hE.1 hP (mw_D hI) hS 0 rfl rfl 0 (by decide) (hts (.fieldLink RX5 47 "CreditGameModel" "thrown" "I") (by decide +kernel)) (fun _ h9 => h9) rfl (by decide +kernel) rfl rfl (Nat.le_of_ble_eq_true rfl) dX5_vertex_28 (fun H locs hP _ hS => ?_)
        have hP : va_P en.1 vwCl (mw en bd (va_up d.1 0 (upd (d.1 0) 0 2), d.2)) H := hP
        obtain ⟨d28, ed28⟩ : ∃ z : mT, z = (va_up d.1 0 (upd (d.1 0) 0 2), d.2) := ⟨_, rfl⟩
        rw [← ed28] at hP
        have ht28 : mth d d28 _ := ed28
        have hm1 := ht28.mi hm
        refine lv_aload_n hx hb dX5_vertex_31 rfl (lv_at hl 0 rfl) ?_
        refine va_get (D := en.1) (ci := 5) (v := .int (d28.1 0 0)) (C := RX5) (T := TX5) (N := 16) hx hb hts iw_X5_vertex_X5 hown hE.1 hP 0 rfl rfl 0 (by decide) (hts (.fieldLink RX5 47 "CreditGameModel" "thrown" "I") (by decide +kernel)) (fun _ h9 => h9) rfl dX5_vertex_32 ?_
        refine lv_topi (fun z_32 ez_32 => ?_)
        obtain rfl : z_32 = 2 := (ez_32.trans (by rw [ed28]; rfl))
        refine lv_if_le (tgt := 40) hx hb dX5_vertex_35 (by decide) (fun b35 => absurd b35 (by decide)) (fun b35 => ?_)
        refine lv_iconst (v := 0) hx hb dX5_vertex_38 (by decide) ?_
        exact W.iret (v := 0) hx hb hr (fun t ht hW => ⟨⟨_, d28, rfl, (Or.inr (Or.inl ⟨hpl, hn_, ht28.thr, ht28.mci hc_⟩)), by show va_P _ _ _ t.heap; rw [ht]; exact hP⟩, hS.F ht⟩) hS.2.2 dX5_vertex_39
    · skip
      skip
      refine lv_iconst (v := 1) hx hb dX5_vertex_10 (by decide) ?_
      refine lv_goto (tgt := 28) hx hb dX5_vertex_11 (by decide) ?_
      refine va_put (D := en.1) (ci := 5) (v := .int 1) (ty := .int) (C := RX5) (T := TX5) (N := 16) hx hb hts iw_X5_vertex_X5 tyX5 tyX5_ok nmX5 hown hE.1 hP (mw_D hI) hS 0 rfl rfl 0 (by decide) (hts (.fieldLink RX5 47 "CreditGameModel" "thrown" "I") (by decide +kernel)) (fun _ h9 => h9) rfl (by decide +kernel) rfl rfl (Nat.le_of_ble_eq_true rfl) dX5_vertex_28 (fun H locs hP _ hS => ?_)
      have hP : va_P en.1 vwCl (mw en bd (va_up d.1 0 (upd (d.1 0) 0 1), d.2)) H := hP
      obtain ⟨d28, ed28⟩ : ∃ z : mT, z = (va_up d.1 0 (upd (d.1 0) 0 1), d.2) := ⟨_, rfl⟩
      rw [← ed28] at hP
      have ht28 : mth d d28 _ := ed28
      have hm1 := ht28.mi hm
      refine lv_aload_n hx hb dX5_vertex_31 rfl (lv_at hl 0 rfl) ?_
      refine va_get (D := en.1) (ci := 5) (v := .int (d28.1 0 0)) (C := RX5) (T := TX5) (N := 16) hx hb hts iw_X5_vertex_X5 hown hE.1 hP 0 rfl rfl 0 (by decide) (hts (.fieldLink RX5 47 "CreditGameModel" "thrown" "I") (by decide +kernel)) (fun _ h9 => h9) rfl dX5_vertex_32 ?_
      refine lv_topi (fun z_32 ez_32 => ?_)
      obtain rfl : z_32 = 1 := (ez_32.trans (by rw [ed28]; rfl))
      refine lv_if_le (tgt := 40) hx hb dX5_vertex_35 (by decide) (fun b35 => absurd b35 (by decide)) (fun b35 => ?_)
      refine lv_iconst (v := 0) hx hb dX5_vertex_38 (by decide) ?_
      exact W.iret (v := 0) hx hb hr (fun t ht hW => ⟨⟨_, d28, rfl, (Or.inl ⟨fun q => q.elim b2 b7, ht28.thr, ht28.mci hc_⟩), by show va_P _ _ _ t.heap; rw [ht]; exact hP⟩, hS.F ht⟩) hS.2.2 dX5_vertex_39
theorem iw_X5_edge_X5 : ∀ w ∈ wsX50, w ∈ wsX5_edge := by decide +kernel
set_option maxHeartbeats 4000000 in
set_option maxRecDepth 100000 in
/--  -/
theorem cm_edge (l : Launch) (en : en_T) (bd : Nat → Nat) (d : mT) (hI : mw_I bd) (sz : Nat) {G : gr_T} (hc_ : mci G d) (a b x : Int32) : Met l yX5_edge wsX5_edge (rm_ 2 0 0) (ct_Pc en [.ref (bd 0), .int a, .int b, .int x] (fun H => H.size = sz ∧ va_P en.1 vwCl (mw en bd d) H)) (va_Qi (fun r d' => (¬ ((∃ i, i < gr_n G ∧ a = nI i) ∧ (∃ j, j < gr_n G ∧ b = nI j) ∧ -9 ≤ x.toInt ∧ x.toInt ≤ 9) ∧ d'.1 0 0 = 1 ∧ mci G d') ∨ (((∃ i, i < gr_n G ∧ a = nI i) ∧ (∃ j, j < gr_n G ∧ b = nI j) ∧ -9 ≤ x.toInt ∧ x.toInt ≤ 9) ∧ ¬ gr_E G < 24 ∧ d'.1 0 0 = 2 ∧ mci G d') ∨ (((∃ i, i < gr_n G ∧ a = nI i) ∧ (∃ j, j < gr_n G ∧ b = nI j) ∧ -9 ≤ x.toInt ∧ x.toInt ≤ 9) ∧ gr_E G < 24 ∧ d'.1 0 0 = 0 ∧ r = nI (gr_E G) ∧ mci (gr_addE G a b x) d')) (fun d' t => va_P en.1 vwCl (mw en bd d') t.heap) (mw_A bd sz)) 0 0 (mw_A bd sz) := by
  refine Met.ofW (cc := cX5_edge) (maxL := 4) (ret := (some .int)) (by decide) rfl ?_
  intro p e s m args below meth co s₁ B hml hv
  obtain ⟨rfl, hE, hsz, hP⟩ := hv
  subst hsz
  have hx := B.exec
  have hb := B.bytes
  have hr := B.returns
  have hts := atoms_spec (ws := wsX5_edge) B.pre
  have hown : s.vm.findClass RX5 = some m.cls := findClass_of_methodNamed B.named
  have hlocks := B.notSynchronized
  have hS : va_S (mw_A bd s.heap.size) s.heap s.heap [] := va_S.rf
  have hl := lv_entry ([.ref (bd 0), .int a, .int b, .int x]) (n := 4) (Nat.le_of_ble_eq_true rfl)
  rw [lg_entry_eq]
  generalize (lg_sl ([.ref (bd 0), .int a, .int b, .int x]) ++ List.replicate (4 - (lg_sl ([.ref (bd 0), .int a, .int b, .int x])).length) Slot.unset).toArray = ls at hl ⊢
  have hl : lv_has ls 4 [(0, .ref (bd 0)), (1, .int a), (2, .int b), (3, .int x)] := hl
  have hm := hc_.1
  have hn7 := hm.n7
  have he24 := hm.e24
  refine lv_aload_n hx hb dX5_edge_0 rfl (lv_at hl 0 rfl) ?_
  refine lv_aload_n hx hb dX5_edge_1 rfl (lv_at hl 0 rfl) ?_
  refine lv_iload_n hx hb dX5_edge_2 rfl (lv_at hl 1 rfl) ?_
  refine ro_calli (va_runV (As := [.int a]) (rest := [.ref (bd 0)]) ⟨hx, hb, hml, hown, hts⟩ (cm_isVertex l en bd d hm a) (cwV 1 hts gX5_edge_X5_isVertex rfl rfl rfl (by decide +kernel) ⟨Nat.le_of_ble_eq_true rfl, Nat.le_of_ble_eq_true rfl⟩) (ct_preV hE (va_recv hE.1 hP (ci := 5) (q0 := 0) rfl rfl) hP) rfl rfl hl.1 rfl (lv_room (Nat.le_of_ble_eq_true rfl)) dX5_edge_3 ⟨Nat.le_of_ble_eq_true rfl, Nat.le_of_ble_eq_true rfl⟩) (fun r3 w3 => ?_)
  refine lv_if_eq (tgt := 29) hx hb dX5_edge_6 (by decide) (fun b6 => ?_) (fun b6 => ?_)
  · skip
    skip
    have hnk : ¬ ((∃ i, i < gr_n G ∧ a = nI i) ∧ (∃ j, j < gr_n G ∧ b = nI j) ∧ -9 ≤ x.toInt ∧ x.toInt ≤ 9) := fun q => cv_no w3 b6 q.1
    refine lv_iconst (v := 1) hx hb dX5_edge_29 (by decide) ?_
    refine lv_goto (tgt := 47) hx hb dX5_edge_30 (by decide) ?_
    refine va_put (D := en.1) (ci := 5) (v := .int 1) (ty := .int) (C := RX5) (T := TX5) (N := 16) hx hb hts iw_X5_edge_X5 tyX5 tyX5_ok nmX5 hown hE.1 hP (mw_D hI) hS 0 rfl rfl 0 (by decide) (hts (.fieldLink RX5 47 "CreditGameModel" "thrown" "I") (by decide +kernel)) (fun _ h9 => h9) rfl (by decide +kernel) rfl rfl (Nat.le_of_ble_eq_true rfl) dX5_edge_47 (fun H locs hP _ hS => ?_)
    have hP : va_P en.1 vwCl (mw en bd (va_up d.1 0 (upd (d.1 0) 0 1), d.2)) H := hP
    obtain ⟨d47, ed47⟩ : ∃ z : mT, z = (va_up d.1 0 (upd (d.1 0) 0 1), d.2) := ⟨_, rfl⟩
    rw [← ed47] at hP
    have ht47 : mth d d47 _ := ed47
    have hm1 := ht47.mi hm
    refine lv_aload_n hx hb dX5_edge_50 rfl (lv_at hl 0 rfl) ?_
    refine va_get (D := en.1) (ci := 5) (v := .int (d47.1 0 0)) (C := RX5) (T := TX5) (N := 16) hx hb hts iw_X5_edge_X5 hown hE.1 hP 0 rfl rfl 0 (by decide) (hts (.fieldLink RX5 47 "CreditGameModel" "thrown" "I") (by decide +kernel)) (fun _ h9 => h9) rfl dX5_edge_51 ?_
    refine lv_topi (fun z_51 ez_51 => ?_)
    obtain rfl : z_51 = 1 := (ez_51.trans (by rw [ed47]; rfl))
    refine lv_if_le (tgt := 59) hx hb dX5_edge_54 (by decide) (fun b54 => absurd b54 (by decide)) (fun b54 => ?_)
    refine lv_iconst (v := 0) hx hb dX5_edge_57 (by decide) ?_
    exact W.iret (v := 0) hx hb hr (fun t ht hW => ⟨⟨_, d47, rfl, (Or.inl ⟨hnk, ht47.thr, ht47.mci hc_⟩), by show va_P _ _ _ t.heap; rw [ht]; exact hP⟩, hS.F ht⟩) hS.2.2 dX5_edge_58
  · skip
    have hv1 := cv_yes w3 b6
    refine lv_aload_n hx hb dX5_edge_9 rfl (lv_at hl 0 rfl) ?_
    refine lv_iload_n hx hb dX5_edge_10 rfl (lv_at hl 2 rfl) ?_
    refine ro_calli (va_runV (As := [.int b]) (rest := [.ref (bd 0)]) ⟨hx, hb, hml, hown, hts⟩ (cm_isVertex l en bd d hm b) (cwV 1 hts gX5_edge_X5_isVertex rfl rfl rfl (by decide +kernel) ⟨Nat.le_of_ble_eq_true rfl, Nat.le_of_ble_eq_true rfl⟩) (ct_preV hE (va_recv hE.1 hP (ci := 5) (q0 := 0) rfl rfl) hP) rfl rfl hl.1 rfl (lv_room (Nat.le_of_ble_eq_true rfl)) dX5_edge_11 ⟨Nat.le_of_ble_eq_true rfl, Nat.le_of_ble_eq_true rfl⟩) (fun r11 w11 => ?_)
    refine lv_if_eq (tgt := 29) hx hb dX5_edge_14 (by decide) (fun b14 => ?_) (fun b14 => ?_)
    · skip
      skip
      have hnk : ¬ ((∃ i, i < gr_n G ∧ a = nI i) ∧ (∃ j, j < gr_n G ∧ b = nI j) ∧ -9 ≤ x.toInt ∧ x.toInt ≤ 9) := fun q => cv_no w11 b14 q.2.1
      refine lv_iconst (v := 1) hx hb dX5_edge_29 (by decide) ?_
      refine lv_goto (tgt := 47) hx hb dX5_edge_30 (by decide) ?_
      refine va_put (D := en.1) (ci := 5) (v := .int 1) (ty := .int) (C := RX5) (T := TX5) (N := 16) hx hb hts iw_X5_edge_X5 tyX5 tyX5_ok nmX5 hown hE.1 hP (mw_D hI) hS 0 rfl rfl 0 (by decide) (hts (.fieldLink RX5 47 "CreditGameModel" "thrown" "I") (by decide +kernel)) (fun _ h9 => h9) rfl (by decide +kernel) rfl rfl (Nat.le_of_ble_eq_true rfl) dX5_edge_47 (fun H locs hP _ hS => ?_)
      have hP : va_P en.1 vwCl (mw en bd (va_up d.1 0 (upd (d.1 0) 0 1), d.2)) H := hP
      obtain ⟨d47, ed47⟩ : ∃ z : mT, z = (va_up d.1 0 (upd (d.1 0) 0 1), d.2) := ⟨_, rfl⟩
      rw [← ed47] at hP
      have ht47 : mth d d47 _ := ed47
      have hm1 := ht47.mi hm
      refine lv_aload_n hx hb dX5_edge_50 rfl (lv_at hl 0 rfl) ?_
      refine va_get (D := en.1) (ci := 5) (v := .int (d47.1 0 0)) (C := RX5) (T := TX5) (N := 16) hx hb hts iw_X5_edge_X5 hown hE.1 hP 0 rfl rfl 0 (by decide) (hts (.fieldLink RX5 47 "CreditGameModel" "thrown" "I") (by decide +kernel)) (fun _ h9 => h9) rfl dX5_edge_51 ?_
      refine lv_topi (fun z_51 ez_51 => ?_)
      obtain rfl : z_51 = 1 := (ez_51.trans (by rw [ed47]; rfl))
      refine lv_if_le (tgt := 59) hx hb dX5_edge_54 (by decide) (fun b54 => absurd b54 (by decide)) (fun b54 => ?_)
      refine lv_iconst (v := 0) hx hb dX5_edge_57 (by decide) ?_
      exact W.iret (v := 0) hx hb hr (fun t ht hW => ⟨⟨_, d47, rfl, (Or.inl ⟨hnk, ht47.thr, ht47.mci hc_⟩), by show va_P _ _ _ t.heap; rw [ht]; exact hP⟩, hS.F ht⟩) hS.2.2 dX5_edge_58
    · skip
      have hv2 := cv_yes w11 b14
      refine lv_iload_n hx hb dX5_edge_17 rfl (lv_at hl 3 rfl) ?_
      refine lv_bipush (v := (-9)) hx hb dX5_edge_18 (by decide) ?_
      refine lv_icmp_lt (tgt := 29) hx hb dX5_edge_20 (by decide) (fun b20 => ?_) (fun b20 => ?_)
      · skip
        skip
        have q20 := i_lt.mp b20
        rw [i_9.2.1] at q20
        have hnk : ¬ ((∃ i, i < gr_n G ∧ a = nI i) ∧ (∃ j, j < gr_n G ∧ b = nI j) ∧ -9 ≤ x.toInt ∧ x.toInt ≤ 9) := fun q => by have := q.2.2.1; omega
        refine lv_iconst (v := 1) hx hb dX5_edge_29 (by decide) ?_
        refine lv_goto (tgt := 47) hx hb dX5_edge_30 (by decide) ?_
        refine va_put (D := en.1) (ci := 5) (v := .int 1) (ty := .int) (C := RX5) (T := TX5) (N := 16) hx hb hts iw_X5_edge_X5 tyX5 tyX5_ok nmX5 hown hE.1 hP (mw_D hI) hS 0 rfl rfl 0 (by decide) (hts (.fieldLink RX5 47 "CreditGameModel" "thrown" "I") (by decide +kernel)) (fun _ h9 => h9) rfl (by decide +kernel) rfl rfl (Nat.le_of_ble_eq_true rfl) dX5_edge_47 (fun H locs hP _ hS => ?_)
        have hP : va_P en.1 vwCl (mw en bd (va_up d.1 0 (upd (d.1 0) 0 1), d.2)) H := hP
        obtain ⟨d47, ed47⟩ : ∃ z : mT, z = (va_up d.1 0 (upd (d.1 0) 0 1), d.2) := ⟨_, rfl⟩
        rw [← ed47] at hP
        have ht47 : mth d d47 _ := ed47
        have hm1 := ht47.mi hm
        refine lv_aload_n hx hb dX5_edge_50 rfl (lv_at hl 0 rfl) ?_
        refine va_get (D := en.1) (ci := 5) (v := .int (d47.1 0 0)) (C := RX5) (T := TX5) (N := 16) hx hb hts iw_X5_edge_X5 hown hE.1 hP 0 rfl rfl 0 (by decide) (hts (.fieldLink RX5 47 "CreditGameModel" "thrown" "I") (by decide +kernel)) (fun _ h9 => h9) rfl dX5_edge_51 ?_
        refine lv_topi (fun z_51 ez_51 => ?_)
        obtain rfl : z_51 = 1 := (ez_51.trans (by rw [ed47]; rfl))
        refine lv_if_le (tgt := 59) hx hb dX5_edge_54 (by decide) (fun b54 => absurd b54 (by decide)) (fun b54 => ?_)
        refine lv_iconst (v := 0) hx hb dX5_edge_57 (by decide) ?_
        exact W.iret (v := 0) hx hb hr (fun t ht hW => ⟨⟨_, d47, rfl, (Or.inl ⟨hnk, ht47.thr, ht47.mci hc_⟩), by show va_P _ _ _ t.heap; rw [ht]; exact hP⟩, hS.F ht⟩) hS.2.2 dX5_edge_58
      · skip
        have q20 : ¬ _ := fun q => b20 (i_lt.mpr q)
        rw [i_9.2.1] at q20
        refine lv_iload_n hx hb dX5_edge_23 rfl (lv_at hl 3 rfl) ?_
        refine lv_bipush (v := 9) hx hb dX5_edge_24 (by decide) ?_
        refine lv_icmp_le (tgt := 33) hx hb dX5_edge_26 (by decide) (fun b26 => ?_) (fun b26 => ?_)
        · skip
          have q26 := i_le.mp b26
          rw [i_9.1] at q26
          have hek : ((∃ i, i < gr_n G ∧ a = nI i) ∧ (∃ j, j < gr_n G ∧ b = nI j) ∧ -9 ≤ x.toInt ∧ x.toInt ≤ 9) := ⟨hv1, hv2, by omega, by omega⟩
          refine lv_aload_n hx hb dX5_edge_33 rfl (lv_at hl 0 rfl) ?_
          refine va_get (D := en.1) (ci := 5) (v := .int (d.1 0 2)) (C := RX5) (T := TX5) (N := 16) hx hb hts iw_X5_edge_X5 hown hE.1 hP 0 rfl rfl 4 (by decide) (hts (.fieldLink RX5 54 "CreditGameModel" "edges" "I") (by decide +kernel)) (fun _ h9 => h9) rfl dX5_edge_34 ?_
          refine lv_topi (fun z_34 ez_34 => ?_)
          obtain rfl : z_34 = (nI (gr_E G)) := (ez_34.trans hm.2.2.1)
          refine lv_bipush (v := (nI 24)) hx hb dX5_edge_37 (by decide) ?_
          refine lv_icmp_ne (tgt := 46) hx hb dX5_edge_39 (by decide) (fun b39 => ?_) (fun b39 => ?_)
          · skip
            have hE_ : gr_E G < 24 := by
              rcases Nat.lt_or_ge (gr_E G) 24 with q | q
              · exact q
              · exact absurd (by rw [show gr_E G = 24 by omega]) b39
            skip
            refine lv_iconst (v := 0) hx hb dX5_edge_46 (by decide) ?_
            refine va_put (D := en.1) (ci := 5) (v := .int 0) (ty := .int) (C := RX5) (T := TX5) (N := 16) hx hb hts iw_X5_edge_X5 tyX5 tyX5_ok nmX5 hown hE.1 hP (mw_D hI) hS 0 rfl rfl 0 (by decide) (hts (.fieldLink RX5 47 "CreditGameModel" "thrown" "I") (by decide +kernel)) (fun _ h9 => h9) rfl (by decide +kernel) rfl rfl (Nat.le_of_ble_eq_true rfl) dX5_edge_47 (fun H locs hP _ hS => ?_)
            have hP : va_P en.1 vwCl (mw en bd (va_up d.1 0 (upd (d.1 0) 0 0), d.2)) H := hP
            obtain ⟨d47, ed47⟩ : ∃ z : mT, z = (va_up d.1 0 (upd (d.1 0) 0 0), d.2) := ⟨_, rfl⟩
            rw [← ed47] at hP
            have ht47 : mth d d47 _ := ed47
            have hm1 := ht47.mi hm
            refine lv_aload_n hx hb dX5_edge_50 rfl (lv_at hl 0 rfl) ?_
            refine va_get (D := en.1) (ci := 5) (v := .int (d47.1 0 0)) (C := RX5) (T := TX5) (N := 16) hx hb hts iw_X5_edge_X5 hown hE.1 hP 0 rfl rfl 0 (by decide) (hts (.fieldLink RX5 47 "CreditGameModel" "thrown" "I") (by decide +kernel)) (fun _ h9 => h9) rfl dX5_edge_51 ?_
            refine lv_topi (fun z_51 ez_51 => ?_)
            obtain rfl : z_51 = 0 := (ez_51.trans (by rw [ed47]; rfl))
            refine lv_if_le (tgt := 59) hx hb dX5_edge_54 (by decide) (fun b54 => ?_) (fun b54 => absurd b54 (fun q => q (by decide)))
            refine lv_aload_n hx hb dX5_edge_59 rfl (lv_at hl 0 rfl) ?_
            refine va_get (D := en.1) (ci := 5) (v := .ref (bd 3)) (C := RX5) (T := TX5) (N := 16) hx hb hts iw_X5_edge_X5 hown hE.1 hP 0 rfl rfl 5 (by decide) (hts (.fieldLink RX5 16 "CreditGameModel" "from" "[I") (by decide +kernel)) (fun _ h9 => h9) rfl dX5_edge_60 ?_
            refine lv_aload_n hx hb dX5_edge_63 rfl (lv_at hl 0 rfl) ?_
            refine va_get (D := en.1) (ci := 5) (v := .int (d47.1 0 2)) (C := RX5) (T := TX5) (N := 16) hx hb hts iw_X5_edge_X5 hown hE.1 hP 0 rfl rfl 4 (by decide) (hts (.fieldLink RX5 54 "CreditGameModel" "edges" "I") (by decide +kernel)) (fun _ h9 => h9) rfl dX5_edge_64 ?_
            refine lv_topi (fun z_64 ez_64 => ?_)
            obtain rfl : z_64 = (nI (gr_E G)) := (ez_64.trans hm1.2.2.1)
            refine lv_iload_n hx hb dX5_edge_67 rfl (lv_at hl 1 rfl) ?_
            refine mr_ist hx hb hE hP hI hS 3 (by decide) (gr_E G) rfl (show _ < 24 by omega) dX5_edge_68 (fun H locs hP hS => ?_)
            obtain ⟨d68, ed68⟩ : ∃ z : mT, z = (va_up d47.1 3 (upd (d47.1 3) (gr_E G) a), d47.2) := ⟨_, rfl⟩
            rw [← ed68] at hP
            refine lv_aload_n hx hb dX5_edge_69 rfl (lv_at hl 0 rfl) ?_
            refine va_get (D := en.1) (ci := 5) (v := .ref (bd 4)) (C := RX5) (T := TX5) (N := 16) hx hb hts iw_X5_edge_X5 hown hE.1 hP 0 rfl rfl 6 (by decide) (hts (.fieldLink RX5 19 "CreditGameModel" "to" "[I") (by decide +kernel)) (fun _ h9 => h9) rfl dX5_edge_70 ?_
            refine lv_aload_n hx hb dX5_edge_73 rfl (lv_at hl 0 rfl) ?_
            refine va_get (D := en.1) (ci := 5) (v := .int (d68.1 0 2)) (C := RX5) (T := TX5) (N := 16) hx hb hts iw_X5_edge_X5 hown hE.1 hP 0 rfl rfl 4 (by decide) (hts (.fieldLink RX5 54 "CreditGameModel" "edges" "I") (by decide +kernel)) (fun _ h9 => h9) rfl dX5_edge_74 ?_
            refine lv_topi (fun z_74 ez_74 => ?_)
            obtain rfl : z_74 = (nI (gr_E G)) := (ez_74.trans (by rw [ed68]; exact hm1.2.2.1))
            refine lv_iload_n hx hb dX5_edge_77 rfl (lv_at hl 2 rfl) ?_
            refine mr_ist hx hb hE hP hI hS 4 (by decide) (gr_E G) rfl (show _ < 24 by omega) dX5_edge_78 (fun H locs hP hS => ?_)
            obtain ⟨d78, ed78⟩ : ∃ z : mT, z = (va_up d68.1 4 (upd (d68.1 4) (gr_E G) b), d68.2) := ⟨_, rfl⟩
            rw [← ed78] at hP
            refine lv_aload_n hx hb dX5_edge_79 rfl (lv_at hl 0 rfl) ?_
            refine va_get (D := en.1) (ci := 5) (v := .ref (bd 5)) (C := RX5) (T := TX5) (N := 16) hx hb hts iw_X5_edge_X5 hown hE.1 hP 0 rfl rfl 7 (by decide) (hts (.fieldLink RX5 22 "CreditGameModel" "weight" "[I") (by decide +kernel)) (fun _ h9 => h9) rfl dX5_edge_80 ?_
            refine lv_aload_n hx hb dX5_edge_83 rfl (lv_at hl 0 rfl) ?_
            refine va_get (D := en.1) (ci := 5) (v := .int (d78.1 0 2)) (C := RX5) (T := TX5) (N := 16) hx hb hts iw_X5_edge_X5 hown hE.1 hP 0 rfl rfl 4 (by decide) (hts (.fieldLink RX5 54 "CreditGameModel" "edges" "I") (by decide +kernel)) (fun _ h9 => h9) rfl dX5_edge_84 ?_
            refine lv_topi (fun z_84 ez_84 => ?_)
            obtain rfl : z_84 = (nI (gr_E G)) := (ez_84.trans (by rw [ed78, ed68]; exact hm1.2.2.1))
            refine lv_iload_n hx hb dX5_edge_87 rfl (lv_at hl 3 rfl) ?_
            refine mr_ist hx hb hE hP hI hS 5 (by decide) (gr_E G) rfl (show _ < 24 by omega) dX5_edge_88 (fun H locs hP hS => ?_)
            obtain ⟨d88, ed88⟩ : ∃ z : mT, z = (va_up d78.1 5 (upd (d78.1 5) (gr_E G) x), d78.2) := ⟨_, rfl⟩
            rw [← ed88] at hP
            refine lv_aload_n hx hb dX5_edge_89 rfl (lv_at hl 0 rfl) ?_
            refine lv_dup hx hb dX5_edge_90 rfl ?_
            refine va_get (D := en.1) (ci := 5) (v := .int (d88.1 0 2)) (C := RX5) (T := TX5) (N := 16) hx hb hts iw_X5_edge_X5 hown hE.1 hP 0 rfl rfl 4 (by decide) (hts (.fieldLink RX5 54 "CreditGameModel" "edges" "I") (by decide +kernel)) (fun _ h9 => h9) rfl dX5_edge_91 ?_
            refine lv_topi (fun z_91 ez_91 => ?_)
            obtain rfl : z_91 = (nI (gr_E G)) := (ez_91.trans (by rw [ed88, ed78, ed68]; exact hm1.2.2.1))
            refine lv_iconst (v := 1) hx hb dX5_edge_94 (by decide) ?_
            refine lv_iadd hx hb dX5_edge_95 ?_
            refine lv_topi (fun z_95 ez_95 => ?_)
            obtain rfl : z_95 = (nI (gr_E G + 1)) := (ez_95.trans (nI_1 _))
            refine va_put (D := en.1) (ci := 5) (v := .int (nI (gr_E G + 1))) (ty := .int) (C := RX5) (T := TX5) (N := 16) hx hb hts iw_X5_edge_X5 tyX5 tyX5_ok nmX5 hown hE.1 hP (mw_D hI) hS 0 rfl rfl 4 (by decide) (hts (.fieldLink RX5 54 "CreditGameModel" "edges" "I") (by decide +kernel)) (fun _ h9 => h9) rfl (by decide +kernel) rfl rfl (Nat.le_of_ble_eq_true rfl) dX5_edge_96 (fun H locs hP _ hS => ?_)
            have hP : va_P en.1 vwCl (mw en bd (va_up d88.1 0 (upd (d88.1 0) 2 (nI (gr_E G + 1))), d88.2)) H := hP
            obtain ⟨d96, ed96⟩ : ∃ z : mT, z = (va_up d88.1 0 (upd (d88.1 0) 2 (nI (gr_E G + 1))), d88.2) := ⟨_, rfl⟩
            rw [← ed96] at hP
            refine lv_aload_n hx hb dX5_edge_99 rfl (lv_at hl 0 rfl) ?_
            refine lv_iconst (v := 0) hx hb dX5_edge_100 (by decide) ?_
            refine va_put (D := en.1) (ci := 5) (v := .int 0) (ty := .boolean) (C := RX5) (T := TX5) (N := 16) hx hb hts iw_X5_edge_X5 tyX5 tyX5_ok nmX5 hown hE.1 hP (mw_D hI) hS 0 rfl rfl 8 (by decide) (hts (.fieldLink RX5 61 "CreditGameModel" "known" "Z") (by decide +kernel)) (fun _ h9 => h9) rfl (by decide +kernel) rfl rfl (Nat.le_of_ble_eq_true rfl) dX5_edge_101 (fun H locs hP _ hS => ?_)
            have hP : va_P en.1 vwCl (mw en bd (va_up d96.1 0 (upd (d96.1 0) 3 0), d96.2)) H := hP
            obtain ⟨d101, ed101⟩ : ∃ z : mT, z = (va_up d96.1 0 (upd (d96.1 0) 3 0), d96.2) := ⟨_, rfl⟩
            rw [← ed101] at hP
            refine lv_aload_n hx hb dX5_edge_104 rfl (lv_at hl 0 rfl) ?_
            refine va_get (D := en.1) (ci := 5) (v := .int (d101.1 0 2)) (C := RX5) (T := TX5) (N := 16) hx hb hts iw_X5_edge_X5 hown hE.1 hP 0 rfl rfl 4 (by decide) (hts (.fieldLink RX5 54 "CreditGameModel" "edges" "I") (by decide +kernel)) (fun _ h9 => h9) rfl dX5_edge_105 ?_
            refine lv_topi (fun z_105 ez_105 => ?_)
            obtain rfl : z_105 = (nI (gr_E G + 1)) := (ez_105.trans (by rw [ed101, ed96]; rfl))
            refine lv_iconst (v := 1) hx hb dX5_edge_108 (by decide) ?_
            refine lv_isub hx hb dX5_edge_109 ?_
            refine lv_topi (fun z_109 ez_109 => ?_)
            obtain rfl : z_109 = (nI (gr_E G)) := (ez_109.trans (nI_pred _))
            exact W.iret (v := (nI (gr_E G))) hx hb hr (fun t ht hW => ⟨⟨_, d101, rfl, (Or.inr (Or.inr ⟨hek, hE_, by rw [ed101, ed96, ed88, ed78, ed68]; exact ht47.thr, rfl, (by obtain ⟨⟨i, hi, rfl⟩, ⟨j, hj, rfl⟩, h1, h2⟩ := hek; exact mi_addE hm1 hE_ hi hj h1 h2 (by rw [ed101, ed96, ed88, ed78, ed68]; rfl) (by rw [ed101, ed96]; rfl) (by rw [ed101, ed96, ed88, ed78, ed68]; rfl) (by rw [ed101, ed96, ed88, ed78, ed68]; rfl) (by rw [ed101, ed96, ed88, ed78, ed68]; rfl) (by rw [ed101, ed96, ed88, ed78, ed68]; rfl) (by rw [ed101, ed96, ed88, ed78, ed68]; rfl)), mkn_0 (by rw [ed101]; rfl)⟩)), by show va_P _ _ _ t.heap; rw [ht]; exact hP⟩, hS.F ht⟩) hS.2.2 dX5_edge_110
          · skip
            have hE_ : ¬ gr_E G < 24 := by rw [(nI_eq (by omega) (by omega)).mp b39]; omega
            skip
            refine lv_iconst (v := 2) hx hb dX5_edge_42 (by decide) ?_
            refine lv_goto (tgt := 47) hx hb dX5_edge_43 (by decide) ?_
            refine va_put (D := en.1) (ci := 5) (v := .int 2) (ty := .int) (C := RX5) (T := TX5) (N := 16) hx hb hts iw_X5_edge_X5 tyX5 tyX5_ok nmX5 hown hE.1 hP (mw_D hI) hS 0 rfl rfl 0 (by decide) (hts (.fieldLink RX5 47 "CreditGameModel" "thrown" "I") (by decide +kernel)) (fun _ h9 => h9) rfl (by decide +kernel) rfl rfl (Nat.le_of_ble_eq_true rfl) dX5_edge_47 (fun H locs hP _ hS => ?_)
            have hP : va_P en.1 vwCl (mw en bd (va_up d.1 0 (upd (d.1 0) 0 2), d.2)) H := hP
            obtain ⟨d47, ed47⟩ : ∃ z : mT, z = (va_up d.1 0 (upd (d.1 0) 0 2), d.2) := ⟨_, rfl⟩
            rw [← ed47] at hP
            have ht47 : mth d d47 _ := ed47
            have hm1 := ht47.mi hm
            refine lv_aload_n hx hb dX5_edge_50 rfl (lv_at hl 0 rfl) ?_
            refine va_get (D := en.1) (ci := 5) (v := .int (d47.1 0 0)) (C := RX5) (T := TX5) (N := 16) hx hb hts iw_X5_edge_X5 hown hE.1 hP 0 rfl rfl 0 (by decide) (hts (.fieldLink RX5 47 "CreditGameModel" "thrown" "I") (by decide +kernel)) (fun _ h9 => h9) rfl dX5_edge_51 ?_
            refine lv_topi (fun z_51 ez_51 => ?_)
            obtain rfl : z_51 = 2 := (ez_51.trans (by rw [ed47]; rfl))
            refine lv_if_le (tgt := 59) hx hb dX5_edge_54 (by decide) (fun b54 => absurd b54 (by decide)) (fun b54 => ?_)
            refine lv_iconst (v := 0) hx hb dX5_edge_57 (by decide) ?_
            exact W.iret (v := 0) hx hb hr (fun t ht hW => ⟨⟨_, d47, rfl, (Or.inr (Or.inl ⟨hek, hE_, ht47.thr, ht47.mci hc_⟩)), by show va_P _ _ _ t.heap; rw [ht]; exact hP⟩, hS.F ht⟩) hS.2.2 dX5_edge_58
        · skip
          skip
          have q26 : ¬ _ := fun q => b26 (i_le.mpr q)
          rw [i_9.1] at q26
          have hnk : ¬ ((∃ i, i < gr_n G ∧ a = nI i) ∧ (∃ j, j < gr_n G ∧ b = nI j) ∧ -9 ≤ x.toInt ∧ x.toInt ≤ 9) := fun q => by have := q.2.2.2; omega
          refine lv_iconst (v := 1) hx hb dX5_edge_29 (by decide) ?_
          refine lv_goto (tgt := 47) hx hb dX5_edge_30 (by decide) ?_
          refine va_put (D := en.1) (ci := 5) (v := .int 1) (ty := .int) (C := RX5) (T := TX5) (N := 16) hx hb hts iw_X5_edge_X5 tyX5 tyX5_ok nmX5 hown hE.1 hP (mw_D hI) hS 0 rfl rfl 0 (by decide) (hts (.fieldLink RX5 47 "CreditGameModel" "thrown" "I") (by decide +kernel)) (fun _ h9 => h9) rfl (by decide +kernel) rfl rfl (Nat.le_of_ble_eq_true rfl) dX5_edge_47 (fun H locs hP _ hS => ?_)
          have hP : va_P en.1 vwCl (mw en bd (va_up d.1 0 (upd (d.1 0) 0 1), d.2)) H := hP
          obtain ⟨d47, ed47⟩ : ∃ z : mT, z = (va_up d.1 0 (upd (d.1 0) 0 1), d.2) := ⟨_, rfl⟩
          rw [← ed47] at hP
          have ht47 : mth d d47 _ := ed47
          have hm1 := ht47.mi hm
          refine lv_aload_n hx hb dX5_edge_50 rfl (lv_at hl 0 rfl) ?_
          refine va_get (D := en.1) (ci := 5) (v := .int (d47.1 0 0)) (C := RX5) (T := TX5) (N := 16) hx hb hts iw_X5_edge_X5 hown hE.1 hP 0 rfl rfl 0 (by decide) (hts (.fieldLink RX5 47 "CreditGameModel" "thrown" "I") (by decide +kernel)) (fun _ h9 => h9) rfl dX5_edge_51 ?_
          refine lv_topi (fun z_51 ez_51 => ?_)
          obtain rfl : z_51 = 1 := (ez_51.trans (by rw [ed47]; rfl))
          refine lv_if_le (tgt := 59) hx hb dX5_edge_54 (by decide) (fun b54 => absurd b54 (by decide)) (fun b54 => ?_)
          refine lv_iconst (v := 0) hx hb dX5_edge_57 (by decide) ?_
          exact W.iret (v := 0) hx hb hr (fun t ht hW => ⟨⟨_, d47, rfl, (Or.inl ⟨hnk, ht47.thr, ht47.mci hc_⟩), by show va_P _ _ _ t.heap; rw [ht]; exact hP⟩, hS.F ht⟩) hS.2.2 dX5_edge_58
theorem iw_X5_fix_X5 : ∀ w ∈ wsX50, w ∈ wsX5_fix := by decide +kernel
set_option maxHeartbeats 4000000 in
set_option maxRecDepth 100000 in
/--  -/
theorem cm_fix (l : Launch) (en : en_T) (bd : Nat → Nat) (d : mT) (hI : mw_I bd) (sz : Nat) {G : gr_T} (hc_ : mci G d) (v x : Int32) : Met l yX5_fix wsX5_fix (rm_ 2 0 0) (ct_Pc en [.ref (bd 0), .int v, .int x] (fun H => H.size = sz ∧ va_P en.1 vwCl (mw en bd d) H)) (va_Qv (fun d' => (¬ ((∃ j, j < gr_n G ∧ v = nI j) ∧ (x = -1 ∨ ∃ k, k < gr_E G ∧ x = nI k ∧ gr_src G k = v)) ∧ d'.1 0 0 = 1 ∧ mci G d') ∨ (((∃ j, j < gr_n G ∧ v = nI j) ∧ (x = -1 ∨ ∃ k, k < gr_E G ∧ x = nI k ∧ gr_src G k = v)) ∧ d'.1 0 0 = 0 ∧ ∀ j, j < gr_n G → v = nI j → mci (gr_setF G j x) d')) (fun d' t => va_P en.1 vwCl (mw en bd d') t.heap) (mw_A bd sz)) 0 0 (mw_A bd sz) := by
  refine Met.ofW (cc := cX5_fix) (maxL := 3) (ret := none) (by decide) rfl ?_
  intro p e s m args below meth co s₁ B hml hv
  obtain ⟨rfl, hE, hsz, hP⟩ := hv
  subst hsz
  have hx := B.exec
  have hb := B.bytes
  have hr := B.returns
  have hts := atoms_spec (ws := wsX5_fix) B.pre
  have hown : s.vm.findClass RX5 = some m.cls := findClass_of_methodNamed B.named
  have hlocks := B.notSynchronized
  have hS : va_S (mw_A bd s.heap.size) s.heap s.heap [] := va_S.rf
  have hl := lv_entry ([.ref (bd 0), .int v, .int x]) (n := 3) (Nat.le_of_ble_eq_true rfl)
  rw [lg_entry_eq]
  generalize (lg_sl ([.ref (bd 0), .int v, .int x]) ++ List.replicate (3 - (lg_sl ([.ref (bd 0), .int v, .int x])).length) Slot.unset).toArray = ls at hl ⊢
  have hl : lv_has ls 3 [(0, .ref (bd 0)), (1, .int v), (2, .int x)] := hl
  have hm := hc_.1
  have hn7 := hm.n7
  have he24 := hm.e24
  refine lv_aload_n hx hb dX5_fix_0 rfl (lv_at hl 0 rfl) ?_
  refine lv_aload_n hx hb dX5_fix_1 rfl (lv_at hl 0 rfl) ?_
  refine lv_iload_n hx hb dX5_fix_2 rfl (lv_at hl 1 rfl) ?_
  refine ro_calli (va_runV (As := [.int v]) (rest := [.ref (bd 0)]) ⟨hx, hb, hml, hown, hts⟩ (cm_isVertex l en bd d hm v) (cwV 1 hts gX5_fix_X5_isVertex rfl rfl rfl (by decide +kernel) ⟨Nat.le_of_ble_eq_true rfl, Nat.le_of_ble_eq_true rfl⟩) (ct_preV hE (va_recv hE.1 hP (ci := 5) (q0 := 0) rfl rfl) hP) rfl rfl hl.1 rfl (lv_room (Nat.le_of_ble_eq_true rfl)) dX5_fix_3 ⟨Nat.le_of_ble_eq_true rfl, Nat.le_of_ble_eq_true rfl⟩) (fun r3 w3 => ?_)
  refine lv_if_eq (tgt := 36) hx hb dX5_fix_6 (by decide) (fun b6 => ?_) (fun b6 => ?_)
  · skip
    skip
    have hnk : ¬ ((∃ j, j < gr_n G ∧ v = nI j) ∧ (x = -1 ∨ ∃ k, k < gr_E G ∧ x = nI k ∧ gr_src G k = v)) := fun q => cv_no w3 b6 q.1
    refine lv_iconst (v := 1) hx hb dX5_fix_36 (by decide) ?_
    refine lv_goto (tgt := 41) hx hb dX5_fix_37 (by decide) ?_
    refine va_put (D := en.1) (ci := 5) (v := .int 1) (ty := .int) (C := RX5) (T := TX5) (N := 16) hx hb hts iw_X5_fix_X5 tyX5 tyX5_ok nmX5 hown hE.1 hP (mw_D hI) hS 0 rfl rfl 0 (by decide) (hts (.fieldLink RX5 47 "CreditGameModel" "thrown" "I") (by decide +kernel)) (fun _ h9 => h9) rfl (by decide +kernel) rfl rfl (Nat.le_of_ble_eq_true rfl) dX5_fix_41 (fun H locs hP _ hS => ?_)
    have hP : va_P en.1 vwCl (mw en bd (va_up d.1 0 (upd (d.1 0) 0 1), d.2)) H := hP
    obtain ⟨d41, ed41⟩ : ∃ z : mT, z = (va_up d.1 0 (upd (d.1 0) 0 1), d.2) := ⟨_, rfl⟩
    rw [← ed41] at hP
    have ht41 : mth d d41 _ := ed41
    have hm1 := ht41.mi hm
    refine lv_aload_n hx hb dX5_fix_44 rfl (lv_at hl 0 rfl) ?_
    refine va_get (D := en.1) (ci := 5) (v := .int (d41.1 0 0)) (C := RX5) (T := TX5) (N := 16) hx hb hts iw_X5_fix_X5 hown hE.1 hP 0 rfl rfl 0 (by decide) (hts (.fieldLink RX5 47 "CreditGameModel" "thrown" "I") (by decide +kernel)) (fun _ h9 => h9) rfl dX5_fix_45 ?_
    refine lv_topi (fun z_45 ez_45 => ?_)
    obtain rfl : z_45 = 1 := (ez_45.trans (by rw [ed41]; rfl))
    refine lv_if_le (tgt := 52) hx hb dX5_fix_48 (by decide) (fun b48 => absurd b48 (by decide)) (fun b48 => ?_)
    exact W.vret hx hb hr (fun t ht hW => ⟨⟨d41, rfl, (Or.inl ⟨hnk, ht41.thr, ht41.mci hc_⟩), by show va_P _ _ _ t.heap; rw [ht]; exact hP⟩, hS.F ht⟩) hS.2.2 dX5_fix_51
  · skip
    have hv1 := cv_yes w3 b6
    obtain ⟨j, hj, ej⟩ := id hv1
    refine lv_iload_n hx hb dX5_fix_9 rfl (lv_at hl 2 rfl) ?_
    refine lv_iconst (v := (-1)) hx hb dX5_fix_10 (by decide) ?_
    refine lv_icmp_eq (tgt := 40) hx hb dX5_fix_11 (by decide) (fun b11 => ?_) (fun b11 => ?_)
    · skip
      skip
      have hfk : ((∃ j, j < gr_n G ∧ v = nI j) ∧ (x = -1 ∨ ∃ k, k < gr_E G ∧ x = nI k ∧ gr_src G k = v)) := ⟨hv1, Or.inl b11⟩
      refine lv_iconst (v := 0) hx hb dX5_fix_40 (by decide) ?_
      refine va_put (D := en.1) (ci := 5) (v := .int 0) (ty := .int) (C := RX5) (T := TX5) (N := 16) hx hb hts iw_X5_fix_X5 tyX5 tyX5_ok nmX5 hown hE.1 hP (mw_D hI) hS 0 rfl rfl 0 (by decide) (hts (.fieldLink RX5 47 "CreditGameModel" "thrown" "I") (by decide +kernel)) (fun _ h9 => h9) rfl (by decide +kernel) rfl rfl (Nat.le_of_ble_eq_true rfl) dX5_fix_41 (fun H locs hP _ hS => ?_)
      have hP : va_P en.1 vwCl (mw en bd (va_up d.1 0 (upd (d.1 0) 0 0), d.2)) H := hP
      obtain ⟨d41, ed41⟩ : ∃ z : mT, z = (va_up d.1 0 (upd (d.1 0) 0 0), d.2) := ⟨_, rfl⟩
      rw [← ed41] at hP
      have ht41 : mth d d41 _ := ed41
      have hm1 := ht41.mi hm
      refine lv_aload_n hx hb dX5_fix_44 rfl (lv_at hl 0 rfl) ?_
      refine va_get (D := en.1) (ci := 5) (v := .int (d41.1 0 0)) (C := RX5) (T := TX5) (N := 16) hx hb hts iw_X5_fix_X5 hown hE.1 hP 0 rfl rfl 0 (by decide) (hts (.fieldLink RX5 47 "CreditGameModel" "thrown" "I") (by decide +kernel)) (fun _ h9 => h9) rfl dX5_fix_45 ?_
      refine lv_topi (fun z_45 ez_45 => ?_)
      obtain rfl : z_45 = 0 := (ez_45.trans (by rw [ed41]; rfl))
      refine lv_if_le (tgt := 52) hx hb dX5_fix_48 (by decide) (fun b48 => ?_) (fun b48 => absurd b48 (fun q => q (by decide)))
      refine lv_aload_n hx hb dX5_fix_52 rfl (lv_at hl 0 rfl) ?_
      refine va_get (D := en.1) (ci := 5) (v := .ref (bd 2)) (C := RX5) (T := TX5) (N := 16) hx hb hts iw_X5_fix_X5 hown hE.1 hP 0 rfl rfl 3 (by decide) (hts (.fieldLink RX5 13 "CreditGameModel" "fixedTo" "[I") (by decide +kernel)) (fun _ h9 => h9) rfl dX5_fix_53 ?_
      refine lv_iload_n hx hb dX5_fix_56 rfl (lv_at hl 1 rfl) ?_
      refine lv_iload_n hx hb dX5_fix_57 rfl (lv_at hl 2 rfl) ?_
      refine mr_ist hx hb hE hP hI hS 2 (by decide) j ej (show _ < 7 by omega) dX5_fix_58 (fun H locs hP hS => ?_)
      obtain ⟨d58, ed58⟩ : ∃ z : mT, z = (va_up d41.1 2 (upd (d41.1 2) j x), d41.2) := ⟨_, rfl⟩
      rw [← ed58] at hP
      refine lv_aload_n hx hb dX5_fix_59 rfl (lv_at hl 0 rfl) ?_
      refine lv_iconst (v := 0) hx hb dX5_fix_60 (by decide) ?_
      refine va_put (D := en.1) (ci := 5) (v := .int 0) (ty := .boolean) (C := RX5) (T := TX5) (N := 16) hx hb hts iw_X5_fix_X5 tyX5 tyX5_ok nmX5 hown hE.1 hP (mw_D hI) hS 0 rfl rfl 8 (by decide) (hts (.fieldLink RX5 61 "CreditGameModel" "known" "Z") (by decide +kernel)) (fun _ h9 => h9) rfl (by decide +kernel) rfl rfl (Nat.le_of_ble_eq_true rfl) dX5_fix_61 (fun H locs hP _ hS => ?_)
      have hP : va_P en.1 vwCl (mw en bd (va_up d58.1 0 (upd (d58.1 0) 3 0), d58.2)) H := hP
      obtain ⟨d61, ed61⟩ : ∃ z : mT, z = (va_up d58.1 0 (upd (d58.1 0) 3 0), d58.2) := ⟨_, rfl⟩
      rw [← ed61] at hP
      exact W.vret hx hb hr (fun t ht hW => ⟨⟨d61, rfl, (Or.inr ⟨hfk, by rw [ed61, ed58]; exact ht41.thr, fun j2 hj2 e2 => by rw [← (nI_eq (by omega) (by omega)).mp (ej.symm.trans e2)]; exact ⟨mi_setF hm1 (by rw [← ej]; exact hfk.2) (by rw [ed61, ed58]; rfl) (by rw [ed61, ed58]; rfl) (by rw [ed61, ed58]; rfl) (fun k h1 h2 h3 => by rw [ed61, ed58]; rcases (show k = 1 ∨ k = 3 ∨ k = 4 ∨ k = 5 by omega) with rfl | rfl | rfl | rfl <;> rfl), mkn_0 (by rw [ed61]; rfl)⟩⟩), by show va_P _ _ _ t.heap; rw [ht]; exact hP⟩, hS.F ht⟩) hS.2.2 dX5_fix_64
    · skip
      refine lv_iload_n hx hb dX5_fix_14 rfl (lv_at hl 2 rfl) ?_
      refine lv_if_lt (tgt := 36) hx hb dX5_fix_15 (by decide) (fun b15 => ?_) (fun b15 => ?_)
      · skip
        skip
        have hnk : ¬ ((∃ j, j < gr_n G ∧ v = nI j) ∧ (x = -1 ∨ ∃ k, k < gr_E G ∧ x = nI k ∧ gr_src G k = v)) := fun q => q.2.elim b11 (fun ⟨k, hk, e, _⟩ => nI_pos (by omega) (e ▸ b15))
        refine lv_iconst (v := 1) hx hb dX5_fix_36 (by decide) ?_
        refine lv_goto (tgt := 41) hx hb dX5_fix_37 (by decide) ?_
        refine va_put (D := en.1) (ci := 5) (v := .int 1) (ty := .int) (C := RX5) (T := TX5) (N := 16) hx hb hts iw_X5_fix_X5 tyX5 tyX5_ok nmX5 hown hE.1 hP (mw_D hI) hS 0 rfl rfl 0 (by decide) (hts (.fieldLink RX5 47 "CreditGameModel" "thrown" "I") (by decide +kernel)) (fun _ h9 => h9) rfl (by decide +kernel) rfl rfl (Nat.le_of_ble_eq_true rfl) dX5_fix_41 (fun H locs hP _ hS => ?_)
        have hP : va_P en.1 vwCl (mw en bd (va_up d.1 0 (upd (d.1 0) 0 1), d.2)) H := hP
        obtain ⟨d41, ed41⟩ : ∃ z : mT, z = (va_up d.1 0 (upd (d.1 0) 0 1), d.2) := ⟨_, rfl⟩
        rw [← ed41] at hP
        have ht41 : mth d d41 _ := ed41
        have hm1 := ht41.mi hm
        refine lv_aload_n hx hb dX5_fix_44 rfl (lv_at hl 0 rfl) ?_
        refine va_get (D := en.1) (ci := 5) (v := .int (d41.1 0 0)) (C := RX5) (T := TX5) (N := 16) hx hb hts iw_X5_fix_X5 hown hE.1 hP 0 rfl rfl 0 (by decide) (hts (.fieldLink RX5 47 "CreditGameModel" "thrown" "I") (by decide +kernel)) (fun _ h9 => h9) rfl dX5_fix_45 ?_
        refine lv_topi (fun z_45 ez_45 => ?_)
        obtain rfl : z_45 = 1 := (ez_45.trans (by rw [ed41]; rfl))
        refine lv_if_le (tgt := 52) hx hb dX5_fix_48 (by decide) (fun b48 => absurd b48 (by decide)) (fun b48 => ?_)
        exact W.vret hx hb hr (fun t ht hW => ⟨⟨d41, rfl, (Or.inl ⟨hnk, ht41.thr, ht41.mci hc_⟩), by show va_P _ _ _ t.heap; rw [ht]; exact hP⟩, hS.F ht⟩) hS.2.2 dX5_fix_51
      · skip
        refine lv_iload_n hx hb dX5_fix_18 rfl (lv_at hl 2 rfl) ?_
        refine lv_aload_n hx hb dX5_fix_19 rfl (lv_at hl 0 rfl) ?_
        refine va_get (D := en.1) (ci := 5) (v := .int (d.1 0 2)) (C := RX5) (T := TX5) (N := 16) hx hb hts iw_X5_fix_X5 hown hE.1 hP 0 rfl rfl 4 (by decide) (hts (.fieldLink RX5 54 "CreditGameModel" "edges" "I") (by decide +kernel)) (fun _ h9 => h9) rfl dX5_fix_20 ?_
        refine lv_icmp_ge (tgt := 36) hx hb dX5_fix_23 (by decide) (fun b23 => ?_) (fun b23 => ?_)
        · skip
          skip
          have hnk : ¬ ((∃ j, j < gr_n G ∧ v = nI j) ∧ (x = -1 ∨ ∃ k, k < gr_E G ∧ x = nI k ∧ gr_src G k = v)) := fun q => q.2.elim b11 (fun ⟨k, hk, e, _⟩ => nI_ge hk (by omega) (by rw [← e, ← hm.2.2.1]; exact b23))
          refine lv_iconst (v := 1) hx hb dX5_fix_36 (by decide) ?_
          refine lv_goto (tgt := 41) hx hb dX5_fix_37 (by decide) ?_
          refine va_put (D := en.1) (ci := 5) (v := .int 1) (ty := .int) (C := RX5) (T := TX5) (N := 16) hx hb hts iw_X5_fix_X5 tyX5 tyX5_ok nmX5 hown hE.1 hP (mw_D hI) hS 0 rfl rfl 0 (by decide) (hts (.fieldLink RX5 47 "CreditGameModel" "thrown" "I") (by decide +kernel)) (fun _ h9 => h9) rfl (by decide +kernel) rfl rfl (Nat.le_of_ble_eq_true rfl) dX5_fix_41 (fun H locs hP _ hS => ?_)
          have hP : va_P en.1 vwCl (mw en bd (va_up d.1 0 (upd (d.1 0) 0 1), d.2)) H := hP
          obtain ⟨d41, ed41⟩ : ∃ z : mT, z = (va_up d.1 0 (upd (d.1 0) 0 1), d.2) := ⟨_, rfl⟩
          rw [← ed41] at hP
          have ht41 : mth d d41 _ := ed41
          have hm1 := ht41.mi hm
          refine lv_aload_n hx hb dX5_fix_44 rfl (lv_at hl 0 rfl) ?_
          refine va_get (D := en.1) (ci := 5) (v := .int (d41.1 0 0)) (C := RX5) (T := TX5) (N := 16) hx hb hts iw_X5_fix_X5 hown hE.1 hP 0 rfl rfl 0 (by decide) (hts (.fieldLink RX5 47 "CreditGameModel" "thrown" "I") (by decide +kernel)) (fun _ h9 => h9) rfl dX5_fix_45 ?_
          refine lv_topi (fun z_45 ez_45 => ?_)
          obtain rfl : z_45 = 1 := (ez_45.trans (by rw [ed41]; rfl))
          refine lv_if_le (tgt := 52) hx hb dX5_fix_48 (by decide) (fun b48 => absurd b48 (by decide)) (fun b48 => ?_)
          exact W.vret hx hb hr (fun t ht hW => ⟨⟨d41, rfl, (Or.inl ⟨hnk, ht41.thr, ht41.mci hc_⟩), by show va_P _ _ _ t.heap; rw [ht]; exact hP⟩, hS.F ht⟩) hS.2.2 dX5_fix_51
        · skip
          obtain ⟨k, hk, ek⟩ := ix_of (by omega) hm.2.2.1 b15 b23
          refine lv_aload_n hx hb dX5_fix_26 rfl (lv_at hl 0 rfl) ?_
          refine va_get (D := en.1) (ci := 5) (v := .ref (bd 3)) (C := RX5) (T := TX5) (N := 16) hx hb hts iw_X5_fix_X5 hown hE.1 hP 0 rfl rfl 5 (by decide) (hts (.fieldLink RX5 16 "CreditGameModel" "from" "[I") (by decide +kernel)) (fun _ h9 => h9) rfl dX5_fix_27 ?_
          refine lv_iload_n hx hb dX5_fix_30 rfl (lv_at hl 2 rfl) ?_
          refine mr_ild hx hb hE hP 3 (by decide) k ek (show _ < 24 by omega) dX5_fix_31 ?_
          refine lv_topi (fun z_31 ez_31 => ?_)
          obtain rfl : z_31 = (gr_src G k) := (ez_31.trans (hm.2.2.2.2 k hk).1)
          refine lv_iload_n hx hb dX5_fix_32 rfl (lv_at hl 1 rfl) ?_
          refine lv_icmp_eq (tgt := 40) hx hb dX5_fix_33 (by decide) (fun b33 => ?_) (fun b33 => ?_)
          · skip
            skip
            have hfk : ((∃ j, j < gr_n G ∧ v = nI j) ∧ (x = -1 ∨ ∃ k, k < gr_E G ∧ x = nI k ∧ gr_src G k = v)) := ⟨hv1, Or.inr ⟨k, hk, ek, b33⟩⟩
            refine lv_iconst (v := 0) hx hb dX5_fix_40 (by decide) ?_
            refine va_put (D := en.1) (ci := 5) (v := .int 0) (ty := .int) (C := RX5) (T := TX5) (N := 16) hx hb hts iw_X5_fix_X5 tyX5 tyX5_ok nmX5 hown hE.1 hP (mw_D hI) hS 0 rfl rfl 0 (by decide) (hts (.fieldLink RX5 47 "CreditGameModel" "thrown" "I") (by decide +kernel)) (fun _ h9 => h9) rfl (by decide +kernel) rfl rfl (Nat.le_of_ble_eq_true rfl) dX5_fix_41 (fun H locs hP _ hS => ?_)
            have hP : va_P en.1 vwCl (mw en bd (va_up d.1 0 (upd (d.1 0) 0 0), d.2)) H := hP
            obtain ⟨d41, ed41⟩ : ∃ z : mT, z = (va_up d.1 0 (upd (d.1 0) 0 0), d.2) := ⟨_, rfl⟩
            rw [← ed41] at hP
            have ht41 : mth d d41 _ := ed41
            have hm1 := ht41.mi hm
            refine lv_aload_n hx hb dX5_fix_44 rfl (lv_at hl 0 rfl) ?_
            refine va_get (D := en.1) (ci := 5) (v := .int (d41.1 0 0)) (C := RX5) (T := TX5) (N := 16) hx hb hts iw_X5_fix_X5 hown hE.1 hP 0 rfl rfl 0 (by decide) (hts (.fieldLink RX5 47 "CreditGameModel" "thrown" "I") (by decide +kernel)) (fun _ h9 => h9) rfl dX5_fix_45 ?_
            refine lv_topi (fun z_45 ez_45 => ?_)
            obtain rfl : z_45 = 0 := (ez_45.trans (by rw [ed41]; rfl))
            refine lv_if_le (tgt := 52) hx hb dX5_fix_48 (by decide) (fun b48 => ?_) (fun b48 => absurd b48 (fun q => q (by decide)))
            refine lv_aload_n hx hb dX5_fix_52 rfl (lv_at hl 0 rfl) ?_
            refine va_get (D := en.1) (ci := 5) (v := .ref (bd 2)) (C := RX5) (T := TX5) (N := 16) hx hb hts iw_X5_fix_X5 hown hE.1 hP 0 rfl rfl 3 (by decide) (hts (.fieldLink RX5 13 "CreditGameModel" "fixedTo" "[I") (by decide +kernel)) (fun _ h9 => h9) rfl dX5_fix_53 ?_
            refine lv_iload_n hx hb dX5_fix_56 rfl (lv_at hl 1 rfl) ?_
            refine lv_iload_n hx hb dX5_fix_57 rfl (lv_at hl 2 rfl) ?_
            refine mr_ist hx hb hE hP hI hS 2 (by decide) j ej (show _ < 7 by omega) dX5_fix_58 (fun H locs hP hS => ?_)
            obtain ⟨d58, ed58⟩ : ∃ z : mT, z = (va_up d41.1 2 (upd (d41.1 2) j x), d41.2) := ⟨_, rfl⟩
            rw [← ed58] at hP
            refine lv_aload_n hx hb dX5_fix_59 rfl (lv_at hl 0 rfl) ?_
            refine lv_iconst (v := 0) hx hb dX5_fix_60 (by decide) ?_
            refine va_put (D := en.1) (ci := 5) (v := .int 0) (ty := .boolean) (C := RX5) (T := TX5) (N := 16) hx hb hts iw_X5_fix_X5 tyX5 tyX5_ok nmX5 hown hE.1 hP (mw_D hI) hS 0 rfl rfl 8 (by decide) (hts (.fieldLink RX5 61 "CreditGameModel" "known" "Z") (by decide +kernel)) (fun _ h9 => h9) rfl (by decide +kernel) rfl rfl (Nat.le_of_ble_eq_true rfl) dX5_fix_61 (fun H locs hP _ hS => ?_)
            have hP : va_P en.1 vwCl (mw en bd (va_up d58.1 0 (upd (d58.1 0) 3 0), d58.2)) H := hP
            obtain ⟨d61, ed61⟩ : ∃ z : mT, z = (va_up d58.1 0 (upd (d58.1 0) 3 0), d58.2) := ⟨_, rfl⟩
            rw [← ed61] at hP
            exact W.vret hx hb hr (fun t ht hW => ⟨⟨d61, rfl, (Or.inr ⟨hfk, by rw [ed61, ed58]; exact ht41.thr, fun j2 hj2 e2 => by rw [← (nI_eq (by omega) (by omega)).mp (ej.symm.trans e2)]; exact ⟨mi_setF hm1 (by rw [← ej]; exact hfk.2) (by rw [ed61, ed58]; rfl) (by rw [ed61, ed58]; rfl) (by rw [ed61, ed58]; rfl) (fun k h1 h2 h3 => by rw [ed61, ed58]; rcases (show k = 1 ∨ k = 3 ∨ k = 4 ∨ k = 5 by omega) with rfl | rfl | rfl | rfl <;> rfl), mkn_0 (by rw [ed61]; rfl)⟩⟩), by show va_P _ _ _ t.heap; rw [ht]; exact hP⟩, hS.F ht⟩) hS.2.2 dX5_fix_64
          · skip
            skip
            have hnk : ¬ ((∃ j, j < gr_n G ∧ v = nI j) ∧ (x = -1 ∨ ∃ k, k < gr_E G ∧ x = nI k ∧ gr_src G k = v)) := fun q => q.2.elim b11 (fun ⟨k2, hk2, e2, h2⟩ => b33 (by rw [(nI_eq (by omega) (by omega)).mp (ek.symm.trans e2)]; exact h2))
            refine lv_iconst (v := 1) hx hb dX5_fix_36 (by decide) ?_
            refine lv_goto (tgt := 41) hx hb dX5_fix_37 (by decide) ?_
            refine va_put (D := en.1) (ci := 5) (v := .int 1) (ty := .int) (C := RX5) (T := TX5) (N := 16) hx hb hts iw_X5_fix_X5 tyX5 tyX5_ok nmX5 hown hE.1 hP (mw_D hI) hS 0 rfl rfl 0 (by decide) (hts (.fieldLink RX5 47 "CreditGameModel" "thrown" "I") (by decide +kernel)) (fun _ h9 => h9) rfl (by decide +kernel) rfl rfl (Nat.le_of_ble_eq_true rfl) dX5_fix_41 (fun H locs hP _ hS => ?_)
            have hP : va_P en.1 vwCl (mw en bd (va_up d.1 0 (upd (d.1 0) 0 1), d.2)) H := hP
            obtain ⟨d41, ed41⟩ : ∃ z : mT, z = (va_up d.1 0 (upd (d.1 0) 0 1), d.2) := ⟨_, rfl⟩
            rw [← ed41] at hP
            have ht41 : mth d d41 _ := ed41
            have hm1 := ht41.mi hm
            refine lv_aload_n hx hb dX5_fix_44 rfl (lv_at hl 0 rfl) ?_
            refine va_get (D := en.1) (ci := 5) (v := .int (d41.1 0 0)) (C := RX5) (T := TX5) (N := 16) hx hb hts iw_X5_fix_X5 hown hE.1 hP 0 rfl rfl 0 (by decide) (hts (.fieldLink RX5 47 "CreditGameModel" "thrown" "I") (by decide +kernel)) (fun _ h9 => h9) rfl dX5_fix_45 ?_
            refine lv_topi (fun z_45 ez_45 => ?_)
            obtain rfl : z_45 = 1 := (ez_45.trans (by rw [ed41]; rfl))
            refine lv_if_le (tgt := 52) hx hb dX5_fix_48 (by decide) (fun b48 => absurd b48 (by decide)) (fun b48 => ?_)
            exact W.vret hx hb hr (fun t ht hW => ⟨⟨d41, rfl, (Or.inl ⟨hnk, ht41.thr, ht41.mci hc_⟩), by show va_P _ _ _ t.heap; rw [ht]; exact hP⟩, hS.F ht⟩) hS.2.2 dX5_fix_51
theorem iw_X5_fixed_X5 : ∀ w ∈ wsX50, w ∈ wsX5_fixed := by decide +kernel
set_option maxHeartbeats 4000000 in
set_option maxRecDepth 100000 in
/--  -/
theorem cm_fixed (l : Launch) (en : en_T) (bd : Nat → Nat) (d : mT) (hI : mw_I bd) (sz : Nat) {G : gr_T} (hc_ : mci G d) (v : Int32) : Met l yX5_fixed wsX5_fixed (rm_ 2 0 0) (ct_Pc en [.ref (bd 0), .int v] (fun H => H.size = sz ∧ va_P en.1 vwCl (mw en bd d) H)) (va_Qi (fun r d' => (¬ (∃ j, j < gr_n G ∧ v = nI j) ∧ d'.1 0 0 = 1 ∧ mci G d') ∨ ((∃ j, j < gr_n G ∧ v = nI j ∧ r = gr_fx G j) ∧ d'.1 0 0 = 0 ∧ mci G d')) (fun d' t => va_P en.1 vwCl (mw en bd d') t.heap) (mw_A bd sz)) 0 0 (mw_A bd sz) := by
  refine Met.ofW (cc := cX5_fixed) (maxL := 2) (ret := (some .int)) (by decide) rfl ?_
  intro p e s m args below meth co s₁ B hml hv
  obtain ⟨rfl, hE, hsz, hP⟩ := hv
  subst hsz
  have hx := B.exec
  have hb := B.bytes
  have hr := B.returns
  have hts := atoms_spec (ws := wsX5_fixed) B.pre
  have hown : s.vm.findClass RX5 = some m.cls := findClass_of_methodNamed B.named
  have hlocks := B.notSynchronized
  have hS : va_S (mw_A bd s.heap.size) s.heap s.heap [] := va_S.rf
  have hl := lv_entry ([.ref (bd 0), .int v]) (n := 2) (Nat.le_of_ble_eq_true rfl)
  rw [lg_entry_eq]
  generalize (lg_sl ([.ref (bd 0), .int v]) ++ List.replicate (2 - (lg_sl ([.ref (bd 0), .int v])).length) Slot.unset).toArray = ls at hl ⊢
  have hl : lv_has ls 2 [(0, .ref (bd 0)), (1, .int v)] := hl
  have hm := hc_.1
  have hn7 := hm.n7
  have he24 := hm.e24
  refine lv_aload_n hx hb dX5_fixed_0 rfl (lv_at hl 0 rfl) ?_
  refine lv_aload_n hx hb dX5_fixed_1 rfl (lv_at hl 0 rfl) ?_
  refine lv_iload_n hx hb dX5_fixed_2 rfl (lv_at hl 1 rfl) ?_
  refine ro_calli (va_runV (As := [.int v]) (rest := [.ref (bd 0)]) ⟨hx, hb, hml, hown, hts⟩ (cm_isVertex l en bd d hm v) (cwV 1 hts gX5_fixed_X5_isVertex rfl rfl rfl (by decide +kernel) ⟨Nat.le_of_ble_eq_true rfl, Nat.le_of_ble_eq_true rfl⟩) (ct_preV hE (va_recv hE.1 hP (ci := 5) (q0 := 0) rfl rfl) hP) rfl rfl hl.1 rfl (lv_room (Nat.le_of_ble_eq_true rfl)) dX5_fixed_3 ⟨Nat.le_of_ble_eq_true rfl, Nat.le_of_ble_eq_true rfl⟩) (fun r3 w3 => ?_)
  refine lv_if_eq (tgt := 13) hx hb dX5_fixed_6 (by decide) (fun b6 => ?_) (fun b6 => ?_)
  · skip
    skip
    have hno := cv_no w3 b6
    refine lv_iconst (v := 1) hx hb dX5_fixed_13 (by decide) ?_
    refine va_put (D := en.1) (ci := 5) (v := .int 1) (ty := .int) (C := RX5) (T := TX5) (N := 16) hx hb hts iw_X5_fixed_X5 tyX5 tyX5_ok nmX5 hown hE.1 hP (mw_D hI) hS 0 rfl rfl 0 (by decide) (hts (.fieldLink RX5 47 "CreditGameModel" "thrown" "I") (by decide +kernel)) (fun _ h9 => h9) rfl (by decide +kernel) rfl rfl (Nat.le_of_ble_eq_true rfl) dX5_fixed_14 (fun H locs hP _ hS => ?_)
    have hP : va_P en.1 vwCl (mw en bd (va_up d.1 0 (upd (d.1 0) 0 1), d.2)) H := hP
    obtain ⟨d14, ed14⟩ : ∃ z : mT, z = (va_up d.1 0 (upd (d.1 0) 0 1), d.2) := ⟨_, rfl⟩
    rw [← ed14] at hP
    have ht14 : mth d d14 _ := ed14
    have hm1 := ht14.mi hm
    refine lv_aload_n hx hb dX5_fixed_17 rfl (lv_at hl 0 rfl) ?_
    refine va_get (D := en.1) (ci := 5) (v := .int (d14.1 0 0)) (C := RX5) (T := TX5) (N := 16) hx hb hts iw_X5_fixed_X5 hown hE.1 hP 0 rfl rfl 0 (by decide) (hts (.fieldLink RX5 47 "CreditGameModel" "thrown" "I") (by decide +kernel)) (fun _ h9 => h9) rfl dX5_fixed_18 ?_
    refine lv_topi (fun z_18 ez_18 => ?_)
    obtain rfl : z_18 = 1 := (ez_18.trans (by rw [ed14]; rfl))
    refine lv_if_le (tgt := 28) hx hb dX5_fixed_21 (by decide) (fun b21 => absurd b21 (by decide)) (fun b21 => ?_)
    refine lv_iconst (v := 0) hx hb dX5_fixed_24 (by decide) ?_
    refine lv_goto (tgt := 34) hx hb dX5_fixed_25 (by decide) ?_
    exact W.iret (v := 0) hx hb hr (fun t ht hW => ⟨⟨_, d14, rfl, (Or.inl ⟨hno, ht14.thr, ht14.mci hc_⟩), by show va_P _ _ _ t.heap; rw [ht]; exact hP⟩, hS.F ht⟩) hS.2.2 dX5_fixed_34
  · skip
    skip
    obtain ⟨j, hj, ej⟩ := cv_yes w3 b6
    refine lv_iconst (v := 0) hx hb dX5_fixed_9 (by decide) ?_
    refine lv_goto (tgt := 14) hx hb dX5_fixed_10 (by decide) ?_
    refine va_put (D := en.1) (ci := 5) (v := .int 0) (ty := .int) (C := RX5) (T := TX5) (N := 16) hx hb hts iw_X5_fixed_X5 tyX5 tyX5_ok nmX5 hown hE.1 hP (mw_D hI) hS 0 rfl rfl 0 (by decide) (hts (.fieldLink RX5 47 "CreditGameModel" "thrown" "I") (by decide +kernel)) (fun _ h9 => h9) rfl (by decide +kernel) rfl rfl (Nat.le_of_ble_eq_true rfl) dX5_fixed_14 (fun H locs hP _ hS => ?_)
    have hP : va_P en.1 vwCl (mw en bd (va_up d.1 0 (upd (d.1 0) 0 0), d.2)) H := hP
    obtain ⟨d14, ed14⟩ : ∃ z : mT, z = (va_up d.1 0 (upd (d.1 0) 0 0), d.2) := ⟨_, rfl⟩
    rw [← ed14] at hP
    have ht14 : mth d d14 _ := ed14
    have hm1 := ht14.mi hm
    refine lv_aload_n hx hb dX5_fixed_17 rfl (lv_at hl 0 rfl) ?_
    refine va_get (D := en.1) (ci := 5) (v := .int (d14.1 0 0)) (C := RX5) (T := TX5) (N := 16) hx hb hts iw_X5_fixed_X5 hown hE.1 hP 0 rfl rfl 0 (by decide) (hts (.fieldLink RX5 47 "CreditGameModel" "thrown" "I") (by decide +kernel)) (fun _ h9 => h9) rfl dX5_fixed_18 ?_
    refine lv_topi (fun z_18 ez_18 => ?_)
    obtain rfl : z_18 = 0 := (ez_18.trans (by rw [ed14]; rfl))
    refine lv_if_le (tgt := 28) hx hb dX5_fixed_21 (by decide) (fun b21 => ?_) (fun b21 => absurd b21 (fun q => q (by decide)))
    refine lv_aload_n hx hb dX5_fixed_28 rfl (lv_at hl 0 rfl) ?_
    refine va_get (D := en.1) (ci := 5) (v := .ref (bd 2)) (C := RX5) (T := TX5) (N := 16) hx hb hts iw_X5_fixed_X5 hown hE.1 hP 0 rfl rfl 3 (by decide) (hts (.fieldLink RX5 13 "CreditGameModel" "fixedTo" "[I") (by decide +kernel)) (fun _ h9 => h9) rfl dX5_fixed_29 ?_
    refine lv_iload_n hx hb dX5_fixed_32 rfl (lv_at hl 1 rfl) ?_
    refine mr_ild hx hb hE hP 2 (by decide) j ej (show _ < 7 by omega) dX5_fixed_33 ?_
    refine lv_topi (fun z_33 ez_33 => ?_)
    obtain rfl : z_33 = (gr_fx G j) := (ez_33.trans (hm1.2.2.2.1 j hj).2)
    exact W.iret (v := (gr_fx G j)) hx hb hr (fun t ht hW => ⟨⟨_, d14, rfl, (Or.inr ⟨⟨j, hj, ej, rfl⟩, ht14.thr, ht14.mci hc_⟩), by show va_P _ _ _ t.heap; rw [ht]; exact hP⟩, hS.F ht⟩) hS.2.2 dX5_fixed_34
theorem iw_X5_refuses_X5 : ∀ w ∈ wsX50, w ∈ wsX5_refuses := by decide +kernel
set_option maxHeartbeats 4000000 in
set_option maxRecDepth 100000 in
/--  -/
theorem cm_refuses (l : Launch) (en : en_T) (bd : Nat → Nat) (d : mT) (hI : mw_I bd) (sz : Nat) {G : gr_T} (hm : mi G d) (v : Int32) : Met l yX5_refuses wsX5_refuses (rm_ 3 0 0) (ct_Pc en [.ref (bd 0), .int v] (fun H => H.size = sz ∧ va_P en.1 vwCl (mw en bd d) H)) (va_Qi (fun r d' => ((r = 1 ∧ ¬ (∃ j, j < gr_n G ∧ v = nI j) ∧ mth d d' 1) ∨ (r = 1 ∧ (∃ j, j < gr_n G ∧ v = nI j) ∧ ¬ gr_cpl G ∧ mth d d' 2) ∨ (r = 0 ∧ (∃ j, j < gr_n G ∧ v = nI j) ∧ gr_cpl G ∧ mth d d' 0))) (fun d' t => va_P en.1 vwCl (mw en bd d') t.heap) (mw_A bd sz)) 0 0 (mw_A bd sz) := by
  refine Met.ofW (cc := cX5_refuses) (maxL := 2) (ret := (some .boolean)) (by decide) rfl ?_
  intro p e s m args below meth co s₁ B hml hv
  obtain ⟨rfl, hE, hsz, hP⟩ := hv
  subst hsz
  have hx := B.exec
  have hb := B.bytes
  have hr := B.returns
  have hts := atoms_spec (ws := wsX5_refuses) B.pre
  have hown : s.vm.findClass RX5 = some m.cls := findClass_of_methodNamed B.named
  have hlocks := B.notSynchronized
  have hS : va_S (mw_A bd s.heap.size) s.heap s.heap [] := va_S.rf
  have hl := lv_entry ([.ref (bd 0), .int v]) (n := 2) (Nat.le_of_ble_eq_true rfl)
  rw [lg_entry_eq]
  generalize (lg_sl ([.ref (bd 0), .int v]) ++ List.replicate (2 - (lg_sl ([.ref (bd 0), .int v])).length) Slot.unset).toArray = ls at hl ⊢
  have hl : lv_has ls 2 [(0, .ref (bd 0)), (1, .int v)] := hl
  refine lv_aload_n hx hb dX5_refuses_0 rfl (lv_at hl 0 rfl) ?_
  refine lv_aload_n hx hb dX5_refuses_1 rfl (lv_at hl 0 rfl) ?_
  refine lv_iload_n hx hb dX5_refuses_2 rfl (lv_at hl 1 rfl) ?_
  refine ro_calli (va_runV (As := [.int v]) (rest := [.ref (bd 0)]) ⟨hx, hb, hml, hown, hts⟩ (cm_isVertex l en bd d hm v) (cwV 1 hts gX5_refuses_X5_isVertex rfl rfl rfl (by decide +kernel) ⟨Nat.le_of_ble_eq_true rfl, Nat.le_of_ble_eq_true rfl⟩) (ct_preV hE (va_recv hE.1 hP (ci := 5) (q0 := 0) rfl rfl) hP) rfl rfl hl.1 rfl (lv_room (Nat.le_of_ble_eq_true rfl)) dX5_refuses_3 ⟨Nat.le_of_ble_eq_true rfl, Nat.le_of_ble_eq_true rfl⟩) (fun r3 w3 => ?_)
  refine lv_if_ne (tgt := 13) hx hb dX5_refuses_6 (by decide) (fun b6 => ?_) (fun b6 => ?_)
  · skip
    have hv1 := cv_yes w3 b6
    refine lv_aload_n hx hb dX5_refuses_13 rfl (lv_at hl 0 rfl) ?_
    refine ro_calli (va_runV (As := []) (rest := [.ref (bd 0)]) ⟨hx, hb, hml, hown, hts⟩ (cm_isComplete l en bd d hm) (cwV 0 hts gX5_refuses_X5_isComplete rfl rfl rfl (by decide +kernel) ⟨Nat.le_of_ble_eq_true rfl, Nat.le_of_ble_eq_true rfl⟩) (ct_preV hE (va_recv hE.1 hP (ci := 5) (q0 := 0) rfl rfl) hP) rfl rfl hl.1 rfl (lv_room (Nat.le_of_ble_eq_true rfl)) dX5_refuses_14 ⟨Nat.le_of_ble_eq_true rfl, Nat.le_of_ble_eq_true rfl⟩) (fun r14 w14 => ?_)
    refine lv_if_eq (tgt := 24) hx hb dX5_refuses_17 (by decide) (fun b17 => ?_) (fun b17 => ?_)
    · skip
      skip
      have hcp : ¬ gr_cpl G := (w14.resolve_left (fun q => absurd (q.1.symm.trans b17) (by decide))).2
      refine lv_iconst (v := 2) hx hb dX5_refuses_24 (by decide) ?_
      refine va_put (D := en.1) (ci := 5) (v := .int 2) (ty := .int) (C := RX5) (T := TX5) (N := 16) hx hb hts iw_X5_refuses_X5 tyX5 tyX5_ok nmX5 hown hE.1 hP (mw_D hI) hS 0 rfl rfl 0 (by decide) (hts (.fieldLink RX5 47 "CreditGameModel" "thrown" "I") (by decide +kernel)) (fun _ h9 => h9) rfl (by decide +kernel) rfl rfl (Nat.le_of_ble_eq_true rfl) dX5_refuses_25 (fun H locs hP _ hS => ?_)
      have hP : va_P en.1 vwCl (mw en bd (va_up d.1 0 (upd (d.1 0) 0 2), d.2)) H := hP
      obtain ⟨d25, ed25⟩ : ∃ z : mT, z = (va_up d.1 0 (upd (d.1 0) 0 2), d.2) := ⟨_, rfl⟩
      rw [← ed25] at hP
      have ht25 : mth d d25 _ := ed25
      refine lv_aload_n hx hb dX5_refuses_28 rfl (lv_at hl 0 rfl) ?_
      refine va_get (D := en.1) (ci := 5) (v := .int (d25.1 0 0)) (C := RX5) (T := TX5) (N := 16) hx hb hts iw_X5_refuses_X5 hown hE.1 hP 0 rfl rfl 0 (by decide) (hts (.fieldLink RX5 47 "CreditGameModel" "thrown" "I") (by decide +kernel)) (fun _ h9 => h9) rfl dX5_refuses_29 ?_
      refine lv_topi (fun z_29 ez_29 => ?_)
      obtain rfl : z_29 = 2 := (ez_29.trans (by rw [ed25]; rfl))
      refine lv_if_le (tgt := 39) hx hb dX5_refuses_32 (by decide) (fun b32 => absurd b32 (by decide)) (fun b32 => ?_)
      refine lv_iconst (v := 1) hx hb dX5_refuses_35 (by decide) ?_
      refine lv_goto (tgt := 40) hx hb dX5_refuses_36 (by decide) ?_
      exact W.zret (v := 1) (ty := .boolean) hx hb hr rfl (fun t ht hW => ⟨⟨_, d25, rfl, (Or.inr (Or.inl ⟨rfl, hv1, hcp, ht25⟩)), by show va_P _ _ _ t.heap; rw [ht]; exact hP⟩, hS.F ht⟩) hS.2.2 dX5_refuses_40
    · skip
      skip
      have hcp : gr_cpl G := (w14.resolve_right (fun q => b17 q.1)).2
      refine lv_iconst (v := 0) hx hb dX5_refuses_20 (by decide) ?_
      refine lv_goto (tgt := 25) hx hb dX5_refuses_21 (by decide) ?_
      refine va_put (D := en.1) (ci := 5) (v := .int 0) (ty := .int) (C := RX5) (T := TX5) (N := 16) hx hb hts iw_X5_refuses_X5 tyX5 tyX5_ok nmX5 hown hE.1 hP (mw_D hI) hS 0 rfl rfl 0 (by decide) (hts (.fieldLink RX5 47 "CreditGameModel" "thrown" "I") (by decide +kernel)) (fun _ h9 => h9) rfl (by decide +kernel) rfl rfl (Nat.le_of_ble_eq_true rfl) dX5_refuses_25 (fun H locs hP _ hS => ?_)
      have hP : va_P en.1 vwCl (mw en bd (va_up d.1 0 (upd (d.1 0) 0 0), d.2)) H := hP
      obtain ⟨d25, ed25⟩ : ∃ z : mT, z = (va_up d.1 0 (upd (d.1 0) 0 0), d.2) := ⟨_, rfl⟩
      rw [← ed25] at hP
      have ht25 : mth d d25 _ := ed25
      refine lv_aload_n hx hb dX5_refuses_28 rfl (lv_at hl 0 rfl) ?_
      refine va_get (D := en.1) (ci := 5) (v := .int (d25.1 0 0)) (C := RX5) (T := TX5) (N := 16) hx hb hts iw_X5_refuses_X5 hown hE.1 hP 0 rfl rfl 0 (by decide) (hts (.fieldLink RX5 47 "CreditGameModel" "thrown" "I") (by decide +kernel)) (fun _ h9 => h9) rfl dX5_refuses_29 ?_
      refine lv_topi (fun z_29 ez_29 => ?_)
      obtain rfl : z_29 = 0 := (ez_29.trans (by rw [ed25]; rfl))
      refine lv_if_le (tgt := 39) hx hb dX5_refuses_32 (by decide) (fun b32 => ?_) (fun b32 => absurd b32 (fun q => q (by decide)))
      refine lv_iconst (v := 0) hx hb dX5_refuses_39 (by decide) ?_
      exact W.zret (v := 0) (ty := .boolean) hx hb hr rfl (fun t ht hW => ⟨⟨_, d25, rfl, (Or.inr (Or.inr ⟨rfl, hv1, hcp, ht25⟩)), by show va_P _ _ _ t.heap; rw [ht]; exact hP⟩, hS.F ht⟩) hS.2.2 dX5_refuses_40
  · skip
    skip
    have hno := cv_no w3 b6
    refine lv_iconst (v := 1) hx hb dX5_refuses_9 (by decide) ?_
    refine lv_goto (tgt := 25) hx hb dX5_refuses_10 (by decide) ?_
    refine va_put (D := en.1) (ci := 5) (v := .int 1) (ty := .int) (C := RX5) (T := TX5) (N := 16) hx hb hts iw_X5_refuses_X5 tyX5 tyX5_ok nmX5 hown hE.1 hP (mw_D hI) hS 0 rfl rfl 0 (by decide) (hts (.fieldLink RX5 47 "CreditGameModel" "thrown" "I") (by decide +kernel)) (fun _ h9 => h9) rfl (by decide +kernel) rfl rfl (Nat.le_of_ble_eq_true rfl) dX5_refuses_25 (fun H locs hP _ hS => ?_)
    have hP : va_P en.1 vwCl (mw en bd (va_up d.1 0 (upd (d.1 0) 0 1), d.2)) H := hP
    obtain ⟨d25, ed25⟩ : ∃ z : mT, z = (va_up d.1 0 (upd (d.1 0) 0 1), d.2) := ⟨_, rfl⟩
    rw [← ed25] at hP
    have ht25 : mth d d25 _ := ed25
    refine lv_aload_n hx hb dX5_refuses_28 rfl (lv_at hl 0 rfl) ?_
    refine va_get (D := en.1) (ci := 5) (v := .int (d25.1 0 0)) (C := RX5) (T := TX5) (N := 16) hx hb hts iw_X5_refuses_X5 hown hE.1 hP 0 rfl rfl 0 (by decide) (hts (.fieldLink RX5 47 "CreditGameModel" "thrown" "I") (by decide +kernel)) (fun _ h9 => h9) rfl dX5_refuses_29 ?_
    refine lv_topi (fun z_29 ez_29 => ?_)
    obtain rfl : z_29 = 1 := (ez_29.trans (by rw [ed25]; rfl))
    refine lv_if_le (tgt := 39) hx hb dX5_refuses_32 (by decide) (fun b32 => absurd b32 (by decide)) (fun b32 => ?_)
    refine lv_iconst (v := 1) hx hb dX5_refuses_35 (by decide) ?_
    refine lv_goto (tgt := 40) hx hb dX5_refuses_36 (by decide) ?_
    exact W.zret (v := 1) (ty := .boolean) hx hb hr rfl (fun t ht hW => ⟨⟨_, d25, rfl, (Or.inl ⟨rfl, hno, ht25⟩), by show va_P _ _ _ t.heap; rw [ht]; exact hP⟩, hS.F ht⟩) hS.2.2 dX5_refuses_40
