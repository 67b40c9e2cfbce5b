/-! ===== CreditGameModel: need, findNeeds ===== -/
/-- what the first i edges give -/
def nd_L (G : gr_T) (j i : Nat) : List Nat := (List.range i).filter (fun x => decide (x ∈ gr_adj G j))
theorem nd_in {G : gr_T} {j i : Nat} (h : i ∈ gr_adj G j) : nd_L G j (i + 1) = nd_L G j i ++ [i] := by
  unfold nd_L
  rw [List.range_succ, List.filter_append]
  simp [h]
theorem nd_out {G : gr_T} {j i : Nat} (h : i ∉ gr_adj G j) : nd_L G j (i + 1) = nd_L G j i := by
  unfold nd_L
  rw [List.range_succ, List.filter_append]
  simp [h]
theorem nd_mem {G : gr_T} (hg : gf_ok G) {j x : Nat} (hj : j < gr_n G) : x ∈ nd_L G j (gr_E G) ↔ x ∈ gr_adj G j := by
  unfold nd_L
  rw [List.mem_filter, List.mem_range]
  simp only [decide_eq_true_eq]
  exact ⟨fun h => h.2, fun h => ⟨(gr_adj_mem hg hj h).1, h⟩⟩
theorem gm_mn_set {l l' : List Int} (h : ∀ a, a ∈ l ↔ a ∈ l') : gm_mn l = gm_mn l' := by
  have h1 : gm_mn l ≤ gm_mn l' := by
    rcases gm_mn_or l' with q | q
    · rw [q]; exact gm_mn_hi l
    · exact gm_mn_mem ((h _).mpr q)
  have h2 : gm_mn l' ≤ gm_mn l := by
    rcases gm_mn_or l with q | q
    · rw [q]; exact gm_mn_hi l'
    · exact gm_mn_mem ((h _).mp q)
  omega
theorem gm_mx_set {l l' : List Int} (h : ∀ a, a ∈ l ↔ a ∈ l') : gm_mx l = gm_mx l' := by
  have h1 : gm_mx l ≤ gm_mx l' := by
    rcases gm_mx_or l with q | q
    · rw [q]; exact gm_mx_lo l'
    · exact gm_mx_mem ((h _).mp q)
  have h2 : gm_mx l' ≤ gm_mx l := by
    rcases gm_mx_or l' with q | q
    · rw [q]; exact gm_mx_lo l
    · exact gm_mx_mem ((h _).mpr q)
  omega
theorem gm_map_set {l l' : List Nat} {f : Nat → Int} (h : ∀ a, a ∈ l ↔ a ∈ l') (a : Int) : a ∈ l.map f ↔ a ∈ l'.map f := by
  simp only [List.mem_map]
  exact ⟨fun ⟨x, h1, h2⟩ => ⟨x, (h x).mp h1, h2⟩, fun ⟨x, h1, h2⟩ => ⟨x, (h x).mpr h1, h2⟩⟩
/-- got, after the edges L -/
def nd_P (L : List Nat) (f : Nat → Int) (le_ : Bool) (got : Int) : Prop := (L = [] ∧ got = -1) ∨ (L ≠ [] ∧ 0 ≤ got ∧ got = if le_ = true then gm_mn (L.map f) else gm_mx (L.map f))
theorem nd_take {L : List Nat} {f : Nat → Int} {le_ : Bool} {got c : Int} {x : Nat} (h : nd_P L f le_ got) (hc : c = f x) (h0 : 0 ≤ c) (h1 : c ≤ 1000000) (ht : got < 0 ∨ ((le_ = true → c < got) ∧ (le_ = false → got < c))) : nd_P (L ++ [x]) f le_ c := by
  refine Or.inr ⟨by simp, h0, ?_⟩
  rw [List.map_append, List.map_singleton, gm_mn_app, gm_mx_app, ← hc]
  rcases h with ⟨rfl, hg⟩ | ⟨hn, hp, hg⟩
  · cases le_ <;> simp [gm_mn, gm_mx] <;> omega
  · have h2 := ht.resolve_left (by omega)
    cases le_
    · have := h2.2 rfl; simp at hg ⊢; omega
    · have := h2.1 rfl; simp at hg ⊢; omega
theorem nd_keep {L : List Nat} {f : Nat → Int} {le_ : Bool} {got c : Int} {x : Nat} (h : nd_P L f le_ got) (hc : c = f x) (h0 : 0 ≤ c) (h1 : c ≤ 1000000) (ht : ¬ got < 0 ∧ (le_ = true → got ≤ c) ∧ (le_ = false → c ≤ got)) : nd_P (L ++ [x]) f le_ got := by
  rcases h with ⟨rfl, hg⟩ | ⟨hn, hp, hg⟩
  · exact absurd (by omega) ht.1
  · refine Or.inr ⟨by simp, hp, ?_⟩
    rw [List.map_append, List.map_singleton, gm_mn_app, gm_mx_app, ← hc]
    cases le_
    · have := ht.2.2 rfl; simp at hg ⊢; omega
    · have := ht.2.1 rfl; simp at hg ⊢; omega
theorem nd_end {G : gr_T} (hg : gf_ok G) {j : Nat} (hj : j < gr_n G) (hne : gr_adj G j ≠ []) {ow : Nat → Bool} {w g : Nat → Int} {le_ : Bool} {got : Int} (ho : ow j = le_) (h : nd_P (nd_L G j (gr_E G)) (gm_ce (gr_tgt G) w g) le_ got) : got = gm_nd (gr_adj G) (gr_tgt G) ow w g j := by
  rcases h with ⟨he, -⟩ | ⟨-, -, hg2⟩
  · exfalso
    obtain ⟨x, hx⟩ := List.exists_mem_of_ne_nil _ hne
    have := (nd_mem hg hj).mpr hx
    rw [he] at this
    cases this
  · unfold gm_nd
    rw [hg2, ho, gm_mn_set (gm_map_set (f := gm_ce (gr_tgt G) w g) (fun a => nd_mem hg hj (x := a))), gm_mx_set (gm_map_set (f := gm_ce (gr_tgt G) w g) (fun a => nd_mem hg hj (x := a)))]
abbrev fM (d : mT) : Nat → Int := fun u => (d.1 10 u).toInt
/-- the weights of the game, as the reference counts them -/
def wt_ok (G : gr_T) (pl : Nat) (p q : Int) (tI oI : Int32) : Prop := (-7 ≤ tI.toInt ∧ tI.toInt ≤ 7) ∧ (-63 ≤ oI.toInt ∧ oI.toInt ≤ 63) ∧ ∀ x, x < gr_E G → tI.toInt * gr_w G x - oI.toInt = cr_w G pl p q x
theorem wt_val {G : gr_T} (hg : gf_ok G) {pl : Nat} {p q : Int} {tI oI z : Int32} (h : wt_ok G pl p q tI oI) {x : Nat} (hx : x < gr_E G) (hz : z = tI * gr_wt G x - oI) : z.toInt = cr_w G pl p q x ∧ -126 ≤ z.toInt ∧ z.toInt ≤ 126 := by
  have h9 := (hg.ed x hx).2.2
  have hm : -63 ≤ tI.toInt * (gr_wt G x).toInt ∧ tI.toInt * (gr_wt G x).toInt ≤ 63 := by
    have h1 := h.1
    generalize (gr_wt G x).toInt = y at h9
    generalize tI.toInt = t at h1
    rcases (show t = -7 ∨ t = -6 ∨ t = -5 ∨ t = -4 ∨ t = -3 ∨ t = -2 ∨ t = -1 ∨ t = 0 ∨ t = 1 ∨ t = 2 ∨ t = 3 ∨ t = 4 ∨ t = 5 ∨ t = 6 ∨ t = 7 by omega) with rfl | rfl | rfl | rfl | rfl | rfl | rfl | rfl | rfl | rfl | rfl | rfl | rfl | rfl | rfl <;> omega
  have h2 := h.2.1
  have e1 : (tI * gr_wt G x).toInt = tI.toInt * (gr_wt G x).toInt := i_mul (by omega) (by omega)
  have e2 : z.toInt = tI.toInt * (gr_wt G x).toInt - oI.toInt := by rw [hz, i_sub (by omega) (by omega), e1]
  have h3 := h.2.2 x hx
  rw [gr_w_eq hx] at h3
  exact ⟨by rw [e2, h3], by omega, by omega⟩
theorem iw_X5_need_X5 : ∀ w ∈ wsX50, w ∈ wsX5_need := by decide +kernel
set_option maxHeartbeats 4000000 in
set_option maxRecDepth 100000 in
/--  -/
theorem cm_need (l : Launch) (en : en_T) (bd : Nat → Nat) (d : mT) {G : gr_T} (hm : mi G d) (hc : gr_cpl G) (pl : Nat) (hpl : pl < 2) (p_ q_ : Int) (tI oI : Int32) (hw : wt_ok G pl p_ q_ tI oI) (cap : Int) (hcap : cap ≤ 100000) (hrg : gm_rng (gr_n G) cap (fM d)) (j : Nat) (hj : j < gr_n G) : Met l yX5_need wsX5_need (rm_ 2 0 0) (ct_Pc en [.ref (bd 0), .int (nI j), .int tI, .int oI, .int (nI pl)] (fun H => va_P en.1 vwCl (mw en bd d) H)) (ro_Qi (fun r => r.toInt = gm_nd (gr_adj G) (gr_tgt G) (cr_ow G pl) (cr_w G pl p_ q_) (fM d) j)) 0 0 (fun _ => False) := by
  refine Met.ofW (cc := cX5_need) (maxL := 9) (ret := (some .int)) (by decide) rfl ?_
  intro p e s m args below meth co s₁ B hml hv
  obtain ⟨rfl, hE, hP⟩ := hv
  have hx := B.exec
  have hb := B.bytes
  have hr := B.returns
  have hts := atoms_spec (ws := wsX5_need) B.pre
  have hown : s.vm.findClass RX5 = some m.cls := findClass_of_methodNamed B.named
  have hlocks := B.notSynchronized
  have hl := lv_entry ([.ref (bd 0), .int (nI j), .int tI, .int oI, .int (nI pl)]) (n := 9) (Nat.le_of_ble_eq_true rfl)
  rw [lg_entry_eq]
  generalize (lg_sl ([.ref (bd 0), .int (nI j), .int tI, .int oI, .int (nI pl)]) ++ List.replicate (9 - (lg_sl ([.ref (bd 0), .int (nI j), .int tI, .int oI, .int (nI pl)])).length) Slot.unset).toArray = ls at hl ⊢
  have hl : lv_has ls 9 [(0, .ref (bd 0)), (1, .int (nI j)), (2, .int tI), (3, .int oI), (4, .int (nI pl))] := hl
  have hn7 := hm.n7
  have he24 := hm.e24
  refine lv_aload_n hx hb dX5_need_0 rfl (lv_at hl 0 rfl) ?_
  refine va_get (D := en.1) (ci := 5) (v := .ref (bd 1)) (C := RX5) (T := TX5) (N := 16) hx hb hts iw_X5_need_X5 hown hE.1 hP 0 rfl rfl 2 (by decide) (hts (.fieldLink RX5 7 "CreditGameModel" "player" "[I") (by decide +kernel)) (fun _ h9 => h9) rfl dX5_need_1 ?_
  refine lv_iload_n hx hb dX5_need_4 rfl (lv_at hl 1 rfl) ?_
  refine mr_ild hx hb hE hP 1 (by decide) j rfl (show _ < 7 by omega) dX5_need_5 ?_
  refine lv_topi (fun z_5 ez_5 => ?_)
  obtain rfl : z_5 = (gr_own G j) := (ez_5.trans (hm.2.2.2.1 j hj).1)
  refine lv_iload hx hb dX5_need_6 (lv_at hl 4 rfl) ?_
  refine lv_icmp_ne (tgt := 15) hx hb dX5_need_8 (by decide) (fun b8 => ?_) (fun b8 => ?_)
  · skip
    skip
    have ho := sv_owf hm.1 hpl hj b8
    refine lv_iconst (v := 0) hx hb dX5_need_15 (by decide) ?_
    refine lv_istore (lv' := [(5, .int 0), (0, .ref (bd 0)), (1, .int (nI j)), (2, .int tI), (3, .int oI), (4, .int (nI pl))]) hx hb dX5_need_16 hl (by decide) rfl (fun ls hl => ?_)
    refine lv_iconst (v := (-1)) hx hb dX5_need_18 (by decide) ?_
    refine lv_istore (lv' := [(6, .int (-1)), (5, .int 0), (0, .ref (bd 0)), (1, .int (nI j)), (2, .int tI), (3, .int oI), (4, .int (nI pl))]) hx hb dX5_need_19 hl (by decide) rfl (fun ls hl => ?_)
    refine lv_iconst (v := (nI 0)) hx hb dX5_need_21 (by decide) ?_
    refine lv_istore (lv' := [(7, .int (nI 0)), (6, .int (-1)), (5, .int 0), (0, .ref (bd 0)), (1, .int (nI j)), (2, .int tI), (3, .int oI), (4, .int (nI pl))]) hx hb dX5_need_22 hl (by decide) rfl (fun ls hl => ?_)
    have key24 : ∀ (n_ : Nat) (i : Nat) (got : Int32) (ls : Array Slot), i ≤ gr_E G → gr_E G + 1 ≤ i + n_ → nd_P (nd_L G j i) (gm_ce (gr_tgt G) (cr_w G pl p_ q_) (fM d)) false got.toInt → lv_has ls 9 [(0, .ref (bd 0)), (1, .int (nI j)), (2, .int tI), (3, .int oI), (4, .int (nI pl)), (5, .int 0), (6, .int got), (7, .int (nI i))] → W p l e (headSpec wsX5_need (rm_ 2 0 0)).room s m ([.ref (bd 0), .int (nI j), .int tI, .int oI, .int (nI pl)] : List Value).toArray below meth co s.heap [] 0 0 (MQ below (ro_Qi (fun r => r.toInt = gm_nd (gr_adj G) (gr_tgt G) (cr_ow G pl) (cr_w G pl p_ q_) (fM d) j)) ([.ref (bd 0), .int (nI j), .int tI, .int oI, .int (nI pl)] : List Value).toArray s 0 0 (fun _ => False)) (F0 m 24 ls []) := by
      intro n_
      induction n_ with
      | zero =>
        intro i got ls hi_ hin hnd hl
        exact absurd hin (by omega)
      | succ n_ ih24 =>
        intro i got ls hi_ hin hnd hl
        refine lv_iload hx hb dX5_need_24 (lv_at hl 7 rfl) ?_
        refine lv_aload_n hx hb dX5_need_26 rfl (lv_at hl 0 rfl) ?_
        refine va_get (D := en.1) (ci := 5) (v := .int (d.1 0 2)) (C := RX5) (T := TX5) (N := 16) hx hb hts iw_X5_need_X5 hown hE.1 hP 0 rfl rfl 4 (by decide) (hts (.fieldLink RX5 54 "CreditGameModel" "edges" "I") (by decide +kernel)) (fun _ h9 => h9) rfl dX5_need_27 ?_
        refine lv_icmp_ge (tgt := 149) hx hb dX5_need_30 (by decide) (fun b30 => ?_) (fun b30 => ?_)
        · skip
          have hin9 : i = gr_E G := by
            rcases Nat.lt_or_ge i (gr_E G) with q | q
            · exact absurd b30 (by rw [hm.2.2.1]; exact nI_ge q (by omega))
            · omega
          subst hin9
          refine lv_iload hx hb dX5_need_149 (lv_at hl 6 rfl) ?_
          exact W.iret (v := got) hx hb hr (fun t ht hW => ⟨_, rfl, (nd_end hm.1 hj (hc.2 j hj) ho hnd), ht⟩) (fun q h => by cases h) dX5_need_151
        · skip
          have hlt : i < gr_E G := by
            rcases Nat.lt_or_ge i (gr_E G) with q | q
            · exact q
            · exact absurd (by rw [hm.2.2.1]; exact nI_le q (by omega)) b30
          refine lv_aload_n hx hb dX5_need_33 rfl (lv_at hl 0 rfl) ?_
          refine lv_iload hx hb dX5_need_34 (lv_at hl 7 rfl) ?_
          refine lv_iload_n hx hb dX5_need_36 rfl (lv_at hl 1 rfl) ?_
          refine ro_calli (va_runV (As := [.int (nI i), .int (nI j)]) (rest := []) ⟨hx, hb, hml, hown, hts⟩ (cm_leads l en bd d hm i j hlt hj) (cwV 2 hts gX5_need_X5_leads rfl rfl rfl (by decide +kernel) ⟨Nat.le_of_ble_eq_true rfl, Nat.le_of_ble_eq_true rfl⟩) (ct_preV hE (va_recv hE.1 hP (ci := 5) (q0 := 0) rfl rfl) hP) rfl rfl hl.1 rfl (lv_room (Nat.le_of_ble_eq_true rfl)) dX5_need_37 ⟨Nat.le_of_ble_eq_true rfl, Nat.le_of_ble_eq_true rfl⟩) (fun r37 w37 => ?_)
          refine lv_if_ne (tgt := 46) hx hb dX5_need_40 (by decide) (fun b40 => ?_) (fun b40 => ?_)
          · skip
            have hin_ : i ∈ gr_adj G j := (w37.resolve_right (fun q => b40 q.1)).2
            have htl := gr_tgt_lt hm.1 hlt
            have hrt := hrg _ htl.1
            refine lv_aload_n hx hb dX5_need_46 rfl (lv_at hl 0 rfl) ?_
            refine va_get (D := en.1) (ci := 5) (v := .ref (bd 10)) (C := RX5) (T := TX5) (N := 16) hx hb hts iw_X5_need_X5 hown hE.1 hP 0 rfl rfl 13 (by decide) (hts (.fieldLink RX5 38 "CreditGameModel" "needs" "[I") (by decide +kernel)) (fun _ h9 => h9) rfl dX5_need_47 ?_
            refine lv_aload_n hx hb dX5_need_50 rfl (lv_at hl 0 rfl) ?_
            refine va_get (D := en.1) (ci := 5) (v := .ref (bd 4)) (C := RX5) (T := TX5) (N := 16) hx hb hts iw_X5_need_X5 hown hE.1 hP 0 rfl rfl 6 (by decide) (hts (.fieldLink RX5 19 "CreditGameModel" "to" "[I") (by decide +kernel)) (fun _ h9 => h9) rfl dX5_need_51 ?_
            refine lv_iload hx hb dX5_need_54 (lv_at hl 7 rfl) ?_
            refine mr_ild hx hb hE hP 4 (by decide) i rfl (show _ < 24 by omega) dX5_need_56 ?_
            refine lv_topi (fun z_56 ez_56 => ?_)
            obtain rfl : z_56 = (nI (gr_tgt G i)) := (ez_56.trans ((hm.2.2.2.2 i hlt).2.1.trans htl.2))
            refine mr_ild hx hb hE hP 10 (by decide) (gr_tgt G i) rfl (show _ < 7 by omega) dX5_need_57 ?_
            refine lv_ldc (own := RX5) (v := 1000000) hx hb hown (hts (.constant RX5 77 (1000000)) (by decide +kernel)) dX5_need_58 ?_
            refine lv_icmp_ne (tgt := 68) hx hb dX5_need_60 (by decide) (fun b60 => ?_) (fun b60 => ?_)
            · skip
              have q60 : ¬ fM d (gr_tgt G i) = 1000000 := fun q => b60 (i_eq (by rw [i_hi]; exact q))
              refine lv_aload_n hx hb dX5_need_68 rfl (lv_at hl 0 rfl) ?_
              refine va_get (D := en.1) (ci := 5) (v := .ref (bd 10)) (C := RX5) (T := TX5) (N := 16) hx hb hts iw_X5_need_X5 hown hE.1 hP 0 rfl rfl 13 (by decide) (hts (.fieldLink RX5 38 "CreditGameModel" "needs" "[I") (by decide +kernel)) (fun _ h9 => h9) rfl dX5_need_69 ?_
              refine lv_aload_n hx hb dX5_need_72 rfl (lv_at hl 0 rfl) ?_
              refine va_get (D := en.1) (ci := 5) (v := .ref (bd 4)) (C := RX5) (T := TX5) (N := 16) hx hb hts iw_X5_need_X5 hown hE.1 hP 0 rfl rfl 6 (by decide) (hts (.fieldLink RX5 19 "CreditGameModel" "to" "[I") (by decide +kernel)) (fun _ h9 => h9) rfl dX5_need_73 ?_
              refine lv_iload hx hb dX5_need_76 (lv_at hl 7 rfl) ?_
              refine mr_ild hx hb hE hP 4 (by decide) i rfl (show _ < 24 by omega) dX5_need_78 ?_
              refine lv_topi (fun z_78 ez_78 => ?_)
              obtain rfl : z_78 = (nI (gr_tgt G i)) := (ez_78.trans ((hm.2.2.2.2 i hlt).2.1.trans htl.2))
              refine mr_ild hx hb hE hP 10 (by decide) (gr_tgt G i) rfl (show _ < 7 by omega) dX5_need_79 ?_
              refine lv_iload_n hx hb dX5_need_80 rfl (lv_at hl 2 rfl) ?_
              refine lv_aload_n hx hb dX5_need_81 rfl (lv_at hl 0 rfl) ?_
              refine va_get (D := en.1) (ci := 5) (v := .ref (bd 5)) (C := RX5) (T := TX5) (N := 16) hx hb hts iw_X5_need_X5 hown hE.1 hP 0 rfl rfl 7 (by decide) (hts (.fieldLink RX5 22 "CreditGameModel" "weight" "[I") (by decide +kernel)) (fun _ h9 => h9) rfl dX5_need_82 ?_
              refine lv_iload hx hb dX5_need_85 (lv_at hl 7 rfl) ?_
              refine mr_ild hx hb hE hP 5 (by decide) i rfl (show _ < 24 by omega) dX5_need_87 ?_
              refine lv_topi (fun z_87 ez_87 => ?_)
              obtain rfl : z_87 = (gr_wt G i) := (ez_87.trans (hm.2.2.2.2 i hlt).2.2)
              refine lv_imul hx hb dX5_need_88 ?_
              refine lv_iload_n hx hb dX5_need_89 rfl (lv_at hl 3 rfl) ?_
              refine lv_isub hx hb dX5_need_90 ?_
              refine lv_topi (fun z1 hz1 => ?_)
              have hz2 := wt_val hm.1 hw hlt hz1
              refine lv_isub hx hb dX5_need_91 ?_
              refine lv_topi (fun y1 hy1 => ?_)
              have hfd : fM d (gr_tgt G i) = (d.1 10 (gr_tgt G i)).toInt := rfl
              have hy2 : y1.toInt = fM d (gr_tgt G i) - cr_w G pl p_ q_ i := by
                rw [hy1, i_sub (by omega) (by omega), hz2.1]
              refine lv_istore (lv' := [(8, .int y1), (0, .ref (bd 0)), (1, .int (nI j)), (2, .int tI), (3, .int oI), (4, .int (nI pl)), (5, .int 0), (6, .int got), (7, .int (nI i))]) hx hb dX5_need_92 hl (by decide) rfl (fun ls hl => ?_)
              refine lv_iload hx hb dX5_need_94 (lv_at hl 0 rfl) ?_
              refine lv_if_ge (tgt := 103) hx hb dX5_need_96 (by decide) (fun b96 => ?_) (fun b96 => ?_)
              · skip
                have q96 := i_le.mp b96
                rw [i_0] at q96
                have hcx : y1.toInt = (gm_ce (gr_tgt G) (cr_w G pl p_ q_) (fM d)) i := by unfold gm_ce; rw [if_neg q60, ← hy2]; omega
                refine lv_iload hx hb dX5_need_103 (lv_at hl 0 rfl) ?_
                refine lv_istore (lv' := [(8, .int y1), (0, .ref (bd 0)), (1, .int (nI j)), (2, .int tI), (3, .int oI), (4, .int (nI pl)), (5, .int 0), (6, .int got), (7, .int (nI i))]) hx hb dX5_need_105 hl (by decide) rfl (fun ls hl => ?_)
                refine lv_iload hx hb dX5_need_107 (lv_at hl 7 rfl) ?_
                refine lv_if_lt (tgt := 134) hx hb dX5_need_109 (by decide) (fun b109 => ?_) (fun b109 => ?_)
                · skip
                  have q109 := i_lt.mp b109
                  rw [i_0] at q109
                  refine lv_iload hx hb dX5_need_134 (lv_at hl 0 rfl) ?_
                  refine lv_goto (tgt := 141) hx hb dX5_need_136 (by decide) ?_
                  refine lv_istore (lv' := [(6, .int y1), (8, .int y1), (0, .ref (bd 0)), (1, .int (nI j)), (2, .int tI), (3, .int oI), (4, .int (nI pl)), (5, .int 0), (7, .int (nI i))]) hx hb dX5_need_141 hl (by decide) rfl (fun ls hl => ?_)
                  refine lv_iinc (v := (nI (i + 1))) (lv' := [(7, .int (nI (i + 1))), (6, .int y1), (8, .int y1), (0, .ref (bd 0)), (1, .int (nI j)), (2, .int tI), (3, .int oI), (4, .int (nI pl)), (5, .int 0)]) hx hb dX5_need_143 hl (k := 8) rfl (nI_1 _) (by decide) rfl (fun ls hl => ?_)
                  refine lv_goto (tgt := 24) hx hb dX5_need_146 (by decide) ?_
                  exact ih24 (i + 1) y1 _ (by omega) (by omega) (by rw [nd_in hin_]; exact nd_take hnd hcx (by omega) (by omega) (by first | exact Or.inl q109 | exact Or.inr ⟨fun q => (by first | omega | (cases q)), fun q => (by first | omega | (cases q))⟩)) (lv_sub hl [3, 4, 5, 6, 7, 8, 1, 0] rfl)
                · skip
                  have q109 : ¬ _ := fun q => b109 (i_lt.mpr q)
                  rw [i_0] at q109
                  refine lv_iload hx hb dX5_need_112 (lv_at hl 6 rfl) ?_
                  refine lv_if_eq (tgt := 127) hx hb dX5_need_114 (by decide) (fun b114 => ?_) (fun b114 => absurd b114 (fun q => q rfl))
                  refine lv_iload hx hb dX5_need_127 (lv_at hl 0 rfl) ?_
                  refine lv_iload hx hb dX5_need_129 (lv_at hl 7 rfl) ?_
                  refine lv_icmp_le (tgt := 139) hx hb dX5_need_131 (by decide) (fun b131 => ?_) (fun b131 => ?_)
                  · skip
                    have q131 := i_le.mp b131
                    refine lv_iload hx hb dX5_need_139 (lv_at hl 7 rfl) ?_
                    refine lv_istore (lv' := [(6, .int got), (8, .int y1), (0, .ref (bd 0)), (1, .int (nI j)), (2, .int tI), (3, .int oI), (4, .int (nI pl)), (5, .int 0), (7, .int (nI i))]) hx hb dX5_need_141 hl (by decide) rfl (fun ls hl => ?_)
                    refine lv_iinc (v := (nI (i + 1))) (lv' := [(7, .int (nI (i + 1))), (6, .int got), (8, .int y1), (0, .ref (bd 0)), (1, .int (nI j)), (2, .int tI), (3, .int oI), (4, .int (nI pl)), (5, .int 0)]) hx hb dX5_need_143 hl (k := 8) rfl (nI_1 _) (by decide) rfl (fun ls hl => ?_)
                    refine lv_goto (tgt := 24) hx hb dX5_need_146 (by decide) ?_
                    exact ih24 (i + 1) got _ (by omega) (by omega) (by rw [nd_in hin_]; exact nd_keep hnd hcx (by omega) (by omega) ⟨q109, fun q => (by first | omega | (cases q)), fun q => (by first | omega | (cases q))⟩) (lv_sub hl [3, 4, 5, 6, 7, 8, 1, 0] rfl)
                  · skip
                    have q131 : ¬ _ := fun q => b131 (i_le.mpr q)
                    refine lv_iload hx hb dX5_need_134 (lv_at hl 0 rfl) ?_
                    refine lv_goto (tgt := 141) hx hb dX5_need_136 (by decide) ?_
                    refine lv_istore (lv' := [(6, .int y1), (8, .int y1), (0, .ref (bd 0)), (1, .int (nI j)), (2, .int tI), (3, .int oI), (4, .int (nI pl)), (5, .int 0), (7, .int (nI i))]) hx hb dX5_need_141 hl (by decide) rfl (fun ls hl => ?_)
                    refine lv_iinc (v := (nI (i + 1))) (lv' := [(7, .int (nI (i + 1))), (6, .int y1), (8, .int y1), (0, .ref (bd 0)), (1, .int (nI j)), (2, .int tI), (3, .int oI), (4, .int (nI pl)), (5, .int 0)]) hx hb dX5_need_143 hl (k := 8) rfl (nI_1 _) (by decide) rfl (fun ls hl => ?_)
                    refine lv_goto (tgt := 24) hx hb dX5_need_146 (by decide) ?_
                    exact ih24 (i + 1) y1 _ (by omega) (by omega) (by rw [nd_in hin_]; exact nd_take hnd hcx (by omega) (by omega) (by first | exact Or.inl q109 | exact Or.inr ⟨fun q => (by first | omega | (cases q)), fun q => (by first | omega | (cases q))⟩)) (lv_sub hl [3, 4, 5, 6, 7, 8, 1, 0] rfl)
              · skip
                have q96 : ¬ _ := fun q => b96 (i_le.mpr q)
                rw [i_0] at q96
                have hcx : (0 : Int32).toInt = (gm_ce (gr_tgt G) (cr_w G pl p_ q_) (fM d)) i := by unfold gm_ce; rw [if_neg q60, ← hy2, i_0]; omega
                have hc0 := i_0
                refine lv_iconst (v := 0) hx hb dX5_need_99 (by decide) ?_
                refine lv_goto (tgt := 105) hx hb dX5_need_100 (by decide) ?_
                refine lv_istore (lv' := [(8, .int 0), (0, .ref (bd 0)), (1, .int (nI j)), (2, .int tI), (3, .int oI), (4, .int (nI pl)), (5, .int 0), (6, .int got), (7, .int (nI i))]) hx hb dX5_need_105 hl (by decide) rfl (fun ls hl => ?_)
                refine lv_iload hx hb dX5_need_107 (lv_at hl 7 rfl) ?_
                refine lv_if_lt (tgt := 134) hx hb dX5_need_109 (by decide) (fun b109 => ?_) (fun b109 => ?_)
                · skip
                  have q109 := i_lt.mp b109
                  rw [i_0] at q109
                  refine lv_iload hx hb dX5_need_134 (lv_at hl 0 rfl) ?_
                  refine lv_goto (tgt := 141) hx hb dX5_need_136 (by decide) ?_
                  refine lv_istore (lv' := [(6, .int 0), (8, .int 0), (0, .ref (bd 0)), (1, .int (nI j)), (2, .int tI), (3, .int oI), (4, .int (nI pl)), (5, .int 0), (7, .int (nI i))]) hx hb dX5_need_141 hl (by decide) rfl (fun ls hl => ?_)
                  refine lv_iinc (v := (nI (i + 1))) (lv' := [(7, .int (nI (i + 1))), (6, .int 0), (8, .int 0), (0, .ref (bd 0)), (1, .int (nI j)), (2, .int tI), (3, .int oI), (4, .int (nI pl)), (5, .int 0)]) hx hb dX5_need_143 hl (k := 8) rfl (nI_1 _) (by decide) rfl (fun ls hl => ?_)
                  refine lv_goto (tgt := 24) hx hb dX5_need_146 (by decide) ?_
                  exact ih24 (i + 1) 0 _ (by omega) (by omega) (by rw [nd_in hin_]; exact nd_take hnd hcx (by omega) (by omega) (by first | exact Or.inl q109 | exact Or.inr ⟨fun q => (by first | omega | (cases q)), fun q => (by first | omega | (cases q))⟩)) (lv_sub hl [3, 4, 5, 6, 7, 8, 1, 0] rfl)
                · skip
                  have q109 : ¬ _ := fun q => b109 (i_lt.mpr q)
                  rw [i_0] at q109
                  refine lv_iload hx hb dX5_need_112 (lv_at hl 6 rfl) ?_
                  refine lv_if_eq (tgt := 127) hx hb dX5_need_114 (by decide) (fun b114 => ?_) (fun b114 => absurd b114 (fun q => q rfl))
                  refine lv_iload hx hb dX5_need_127 (lv_at hl 0 rfl) ?_
                  refine lv_iload hx hb dX5_need_129 (lv_at hl 7 rfl) ?_
                  refine lv_icmp_le (tgt := 139) hx hb dX5_need_131 (by decide) (fun b131 => ?_) (fun b131 => ?_)
                  · skip
                    have q131 := i_le.mp b131
                    refine lv_iload hx hb dX5_need_139 (lv_at hl 7 rfl) ?_
                    refine lv_istore (lv' := [(6, .int got), (8, .int 0), (0, .ref (bd 0)), (1, .int (nI j)), (2, .int tI), (3, .int oI), (4, .int (nI pl)), (5, .int 0), (7, .int (nI i))]) hx hb dX5_need_141 hl (by decide) rfl (fun ls hl => ?_)
                    refine lv_iinc (v := (nI (i + 1))) (lv' := [(7, .int (nI (i + 1))), (6, .int got), (8, .int 0), (0, .ref (bd 0)), (1, .int (nI j)), (2, .int tI), (3, .int oI), (4, .int (nI pl)), (5, .int 0)]) hx hb dX5_need_143 hl (k := 8) rfl (nI_1 _) (by decide) rfl (fun ls hl => ?_)
                    refine lv_goto (tgt := 24) hx hb dX5_need_146 (by decide) ?_
                    exact ih24 (i + 1) got _ (by omega) (by omega) (by rw [nd_in hin_]; exact nd_keep hnd hcx (by omega) (by omega) ⟨q109, fun q => (by first | omega | (cases q)), fun q => (by first | omega | (cases q))⟩) (lv_sub hl [3, 4, 5, 6, 7, 8, 1, 0] rfl)
                  · skip
                    have q131 : ¬ _ := fun q => b131 (i_le.mpr q)
                    refine lv_iload hx hb dX5_need_134 (lv_at hl 0 rfl) ?_
                    refine lv_goto (tgt := 141) hx hb dX5_need_136 (by decide) ?_
                    refine lv_istore (lv' := [(6, .int 0), (8, .int 0), (0, .ref (bd 0)), (1, .int (nI j)), (2, .int tI), (3, .int oI), (4, .int (nI pl)), (5, .int 0), (7, .int (nI i))]) hx hb dX5_need_141 hl (by decide) rfl (fun ls hl => ?_)
                    refine lv_iinc (v := (nI (i + 1))) (lv' := [(7, .int (nI (i + 1))), (6, .int 0), (8, .int 0), (0, .ref (bd 0)), (1, .int (nI j)), (2, .int tI), (3, .int oI), (4, .int (nI pl)), (5, .int 0)]) hx hb dX5_need_143 hl (k := 8) rfl (nI_1 _) (by decide) rfl (fun ls hl => ?_)
                    refine lv_goto (tgt := 24) hx hb dX5_need_146 (by decide) ?_
                    exact ih24 (i + 1) 0 _ (by omega) (by omega) (by rw [nd_in hin_]; exact nd_take hnd hcx (by omega) (by omega) (by first | exact Or.inl q109 | exact Or.inr ⟨fun q => (by first | omega | (cases q)), fun q => (by first | omega | (cases q))⟩)) (lv_sub hl [3, 4, 5, 6, 7, 8, 1, 0] rfl)
            · skip
              have q60 : fM d (gr_tgt G i) = 1000000 := by show (d.1 10 (gr_tgt G i)).toInt = _; rw [b60, i_hi]
              refine lv_ldc (own := RX5) (v := 1000000) hx hb hown (hts (.constant RX5 77 (1000000)) (by decide +kernel)) dX5_need_63 ?_
              refine lv_goto (tgt := 92) hx hb dX5_need_65 (by decide) ?_
              refine lv_istore (lv' := [(8, .int 1000000), (0, .ref (bd 0)), (1, .int (nI j)), (2, .int tI), (3, .int oI), (4, .int (nI pl)), (5, .int 0), (6, .int got), (7, .int (nI i))]) hx hb dX5_need_92 hl (by decide) rfl (fun ls hl => ?_)
              refine lv_iload hx hb dX5_need_94 (lv_at hl 0 rfl) ?_
              refine lv_if_ge (tgt := 103) hx hb dX5_need_96 (by decide) (fun b96 => ?_) (fun b96 => absurd b96 (fun q => q (by decide)))
              have hcx : (1000000 : Int32).toInt = (gm_ce (gr_tgt G) (cr_w G pl p_ q_) (fM d)) i := by unfold gm_ce; rw [if_pos q60, i_hi]
              have hc6 := i_hi
              refine lv_iload hx hb dX5_need_103 (lv_at hl 0 rfl) ?_
              refine lv_istore (lv' := [(8, .int 1000000), (0, .ref (bd 0)), (1, .int (nI j)), (2, .int tI), (3, .int oI), (4, .int (nI pl)), (5, .int 0), (6, .int got), (7, .int (nI i))]) hx hb dX5_need_105 hl (by decide) rfl (fun ls hl => ?_)
              refine lv_iload hx hb dX5_need_107 (lv_at hl 7 rfl) ?_
              refine lv_if_lt (tgt := 134) hx hb dX5_need_109 (by decide) (fun b109 => ?_) (fun b109 => ?_)
              · skip
                have q109 := i_lt.mp b109
                rw [i_0] at q109
                refine lv_iload hx hb dX5_need_134 (lv_at hl 0 rfl) ?_
                refine lv_goto (tgt := 141) hx hb dX5_need_136 (by decide) ?_
                refine lv_istore (lv' := [(6, .int 1000000), (8, .int 1000000), (0, .ref (bd 0)), (1, .int (nI j)), (2, .int tI), (3, .int oI), (4, .int (nI pl)), (5, .int 0), (7, .int (nI i))]) hx hb dX5_need_141 hl (by decide) rfl (fun ls hl => ?_)
                refine lv_iinc (v := (nI (i + 1))) (lv' := [(7, .int (nI (i + 1))), (6, .int 1000000), (8, .int 1000000), (0, .ref (bd 0)), (1, .int (nI j)), (2, .int tI), (3, .int oI), (4, .int (nI pl)), (5, .int 0)]) hx hb dX5_need_143 hl (k := 8) rfl (nI_1 _) (by decide) rfl (fun ls hl => ?_)
                refine lv_goto (tgt := 24) hx hb dX5_need_146 (by decide) ?_
                exact ih24 (i + 1) 1000000 _ (by omega) (by omega) (by rw [nd_in hin_]; exact nd_take hnd hcx (by omega) (by omega) (by first | exact Or.inl q109 | exact Or.inr ⟨fun q => (by first | omega | (cases q)), fun q => (by first | omega | (cases q))⟩)) (lv_sub hl [3, 4, 5, 6, 7, 8, 1, 0] rfl)
              · skip
                have q109 : ¬ _ := fun q => b109 (i_lt.mpr q)
                rw [i_0] at q109
                refine lv_iload hx hb dX5_need_112 (lv_at hl 6 rfl) ?_
                refine lv_if_eq (tgt := 127) hx hb dX5_need_114 (by decide) (fun b114 => ?_) (fun b114 => absurd b114 (fun q => q rfl))
                refine lv_iload hx hb dX5_need_127 (lv_at hl 0 rfl) ?_
                refine lv_iload hx hb dX5_need_129 (lv_at hl 7 rfl) ?_
                refine lv_icmp_le (tgt := 139) hx hb dX5_need_131 (by decide) (fun b131 => ?_) (fun b131 => ?_)
                · skip
                  have q131 := i_le.mp b131
                  refine lv_iload hx hb dX5_need_139 (lv_at hl 7 rfl) ?_
                  refine lv_istore (lv' := [(6, .int got), (8, .int 1000000), (0, .ref (bd 0)), (1, .int (nI j)), (2, .int tI), (3, .int oI), (4, .int (nI pl)), (5, .int 0), (7, .int (nI i))]) hx hb dX5_need_141 hl (by decide) rfl (fun ls hl => ?_)
                  refine lv_iinc (v := (nI (i + 1))) (lv' := [(7, .int (nI (i + 1))), (6, .int got), (8, .int 1000000), (0, .ref (bd 0)), (1, .int (nI j)), (2, .int tI), (3, .int oI), (4, .int (nI pl)), (5, .int 0)]) hx hb dX5_need_143 hl (k := 8) rfl (nI_1 _) (by decide) rfl (fun ls hl => ?_)
                  refine lv_goto (tgt := 24) hx hb dX5_need_146 (by decide) ?_
                  exact ih24 (i + 1) got _ (by omega) (by omega) (by rw [nd_in hin_]; exact nd_keep hnd hcx (by omega) (by omega) ⟨q109, fun q => (by first | omega | (cases q)), fun q => (by first | omega | (cases q))⟩) (lv_sub hl [3, 4, 5, 6, 7, 8, 1, 0] rfl)
                · skip
                  have q131 : ¬ _ := fun q => b131 (i_le.mpr q)
                  refine lv_iload hx hb dX5_need_134 (lv_at hl 0 rfl) ?_
                  refine lv_goto (tgt := 141) hx hb dX5_need_136 (by decide) ?_
                  refine lv_istore (lv' := [(6, .int 1000000), (8, .int 1000000), (0, .ref (bd 0)), (1, .int (nI j)), (2, .int tI), (3, .int oI), (4, .int (nI pl)), (5, .int 0), (7, .int (nI i))]) hx hb dX5_need_141 hl (by decide) rfl (fun ls hl => ?_)
                  refine lv_iinc (v := (nI (i + 1))) (lv' := [(7, .int (nI (i + 1))), (6, .int 1000000), (8, .int 1000000), (0, .ref (bd 0)), (1, .int (nI j)), (2, .int tI), (3, .int oI), (4, .int (nI pl)), (5, .int 0)]) hx hb dX5_need_143 hl (k := 8) rfl (nI_1 _) (by decide) rfl (fun ls hl => ?_)
                  refine lv_goto (tgt := 24) hx hb dX5_need_146 (by decide) ?_
                  exact ih24 (i + 1) 1000000 _ (by omega) (by omega) (by rw [nd_in hin_]; exact nd_take hnd hcx (by omega) (by omega) (by first | exact Or.inl q109 | exact Or.inr ⟨fun q => (by first | omega | (cases q)), fun q => (by first | omega | (cases q))⟩)) (lv_sub hl [3, 4, 5, 6, 7, 8, 1, 0] rfl)
          · skip
            skip
            have hnx : i ∉ gr_adj G j := (w37.resolve_left (fun q => absurd (q.1.symm.trans b40) (by decide))).2
            refine lv_goto (tgt := 143) hx hb dX5_need_43 (by decide) ?_
            refine lv_iinc (v := (nI (i + 1))) (lv' := [(7, .int (nI (i + 1))), (0, .ref (bd 0)), (1, .int (nI j)), (2, .int tI), (3, .int oI), (4, .int (nI pl)), (5, .int 0), (6, .int got)]) hx hb dX5_need_143 hl (k := 7) rfl (nI_1 _) (by decide) rfl (fun ls hl => ?_)
            refine lv_goto (tgt := 24) hx hb dX5_need_146 (by decide) ?_
            exact ih24 (i + 1) got _ (by omega) (by omega) (by rw [nd_out hnx]; exact hnd) (lv_sub hl [1, 2, 3, 4, 5, 6, 7, 0] rfl)
    exact key24 (gr_E G + 1) 0 (-1) _ (Nat.zero_le _) (by omega) (Or.inl ⟨rfl, by decide⟩) (lv_sub hl [3, 4, 5, 6, 7, 2, 1, 0] rfl)
  · skip
    skip
    have ho := sv_owt hm.1 hpl hj b8
    refine lv_iconst (v := 1) hx hb dX5_need_11 (by decide) ?_
    refine lv_goto (tgt := 16) hx hb dX5_need_12 (by decide) ?_
    refine lv_istore (lv' := [(5, .int 1), (0, .ref (bd 0)), (1, .int (nI j)), (2, .int tI), (3, .int oI), (4, .int (nI pl))]) hx hb dX5_need_16 hl (by decide) rfl (fun ls hl => ?_)
    refine lv_iconst (v := (-1)) hx hb dX5_need_18 (by decide) ?_
    refine lv_istore (lv' := [(6, .int (-1)), (5, .int 1), (0, .ref (bd 0)), (1, .int (nI j)), (2, .int tI), (3, .int oI), (4, .int (nI pl))]) hx hb dX5_need_19 hl (by decide) rfl (fun ls hl => ?_)
    refine lv_iconst (v := (nI 0)) hx hb dX5_need_21 (by decide) ?_
    refine lv_istore (lv' := [(7, .int (nI 0)), (6, .int (-1)), (5, .int 1), (0, .ref (bd 0)), (1, .int (nI j)), (2, .int tI), (3, .int oI), (4, .int (nI pl))]) hx hb dX5_need_22 hl (by decide) rfl (fun ls hl => ?_)
    have key24 : ∀ (n_ : Nat) (i : Nat) (got : Int32) (ls : Array Slot), i ≤ gr_E G → gr_E G + 1 ≤ i + n_ → nd_P (nd_L G j i) (gm_ce (gr_tgt G) (cr_w G pl p_ q_) (fM d)) true got.toInt → lv_has ls 9 [(0, .ref (bd 0)), (1, .int (nI j)), (2, .int tI), (3, .int oI), (4, .int (nI pl)), (5, .int 1), (6, .int got), (7, .int (nI i))] → W p l e (headSpec wsX5_need (rm_ 2 0 0)).room s m ([.ref (bd 0), .int (nI j), .int tI, .int oI, .int (nI pl)] : List Value).toArray below meth co s.heap [] 0 0 (MQ below (ro_Qi (fun r => r.toInt = gm_nd (gr_adj G) (gr_tgt G) (cr_ow G pl) (cr_w G pl p_ q_) (fM d) j)) ([.ref (bd 0), .int (nI j), .int tI, .int oI, .int (nI pl)] : List Value).toArray s 0 0 (fun _ => False)) (F0 m 24 ls []) := by
      intro n_
      induction n_ with
      | zero =>
        intro i got ls hi_ hin hnd hl
        exact absurd hin (by omega)
      | succ n_ ih24 =>
        intro i got ls hi_ hin hnd hl
        refine lv_iload hx hb dX5_need_24 (lv_at hl 7 rfl) ?_
        refine lv_aload_n hx hb dX5_need_26 rfl (lv_at hl 0 rfl) ?_
        refine va_get (D := en.1) (ci := 5) (v := .int (d.1 0 2)) (C := RX5) (T := TX5) (N := 16) hx hb hts iw_X5_need_X5 hown hE.1 hP 0 rfl rfl 4 (by decide) (hts (.fieldLink RX5 54 "CreditGameModel" "edges" "I") (by decide +kernel)) (fun _ h9 => h9) rfl dX5_need_27 ?_
        refine lv_icmp_ge (tgt := 149) hx hb dX5_need_30 (by decide) (fun b30 => ?_) (fun b30 => ?_)
        · skip
          have hin9 : i = gr_E G := by
            rcases Nat.lt_or_ge i (gr_E G) with q | q
            · exact absurd b30 (by rw [hm.2.2.1]; exact nI_ge q (by omega))
            · omega
          subst hin9
          refine lv_iload hx hb dX5_need_149 (lv_at hl 6 rfl) ?_
          exact W.iret (v := got) hx hb hr (fun t ht hW => ⟨_, rfl, (nd_end hm.1 hj (hc.2 j hj) ho hnd), ht⟩) (fun q h => by cases h) dX5_need_151
        · skip
          have hlt : i < gr_E G := by
            rcases Nat.lt_or_ge i (gr_E G) with q | q
            · exact q
            · exact absurd (by rw [hm.2.2.1]; exact nI_le q (by omega)) b30
          refine lv_aload_n hx hb dX5_need_33 rfl (lv_at hl 0 rfl) ?_
          refine lv_iload hx hb dX5_need_34 (lv_at hl 7 rfl) ?_
          refine lv_iload_n hx hb dX5_need_36 rfl (lv_at hl 1 rfl) ?_
          refine ro_calli (va_runV (As := [.int (nI i), .int (nI j)]) (rest := []) ⟨hx, hb, hml, hown, hts⟩ (cm_leads l en bd d hm i j hlt hj) (cwV 2 hts gX5_need_X5_leads rfl rfl rfl (by decide +kernel) ⟨Nat.le_of_ble_eq_true rfl, Nat.le_of_ble_eq_true rfl⟩) (ct_preV hE (va_recv hE.1 hP (ci := 5) (q0 := 0) rfl rfl) hP) rfl rfl hl.1 rfl (lv_room (Nat.le_of_ble_eq_true rfl)) dX5_need_37 ⟨Nat.le_of_ble_eq_true rfl, Nat.le_of_ble_eq_true rfl⟩) (fun r37 w37 => ?_)
          refine lv_if_ne (tgt := 46) hx hb dX5_need_40 (by decide) (fun b40 => ?_) (fun b40 => ?_)
          · skip
            have hin_ : i ∈ gr_adj G j := (w37.resolve_right (fun q => b40 q.1)).2
            have htl := gr_tgt_lt hm.1 hlt
            have hrt := hrg _ htl.1
            refine lv_aload_n hx hb dX5_need_46 rfl (lv_at hl 0 rfl) ?_
            refine va_get (D := en.1) (ci := 5) (v := .ref (bd 10)) (C := RX5) (T := TX5) (N := 16) hx hb hts iw_X5_need_X5 hown hE.1 hP 0 rfl rfl 13 (by decide) (hts (.fieldLink RX5 38 "CreditGameModel" "needs" "[I") (by decide +kernel)) (fun _ h9 => h9) rfl dX5_need_47 ?_
            refine lv_aload_n hx hb dX5_need_50 rfl (lv_at hl 0 rfl) ?_
            refine va_get (D := en.1) (ci := 5) (v := .ref (bd 4)) (C := RX5) (T := TX5) (N := 16) hx hb hts iw_X5_need_X5 hown hE.1 hP 0 rfl rfl 6 (by decide) (hts (.fieldLink RX5 19 "CreditGameModel" "to" "[I") (by decide +kernel)) (fun _ h9 => h9) rfl dX5_need_51 ?_
            refine lv_iload hx hb dX5_need_54 (lv_at hl 7 rfl) ?_
            refine mr_ild hx hb hE hP 4 (by decide) i rfl (show _ < 24 by omega) dX5_need_56 ?_
            refine lv_topi (fun z_56 ez_56 => ?_)
            obtain rfl : z_56 = (nI (gr_tgt G i)) := (ez_56.trans ((hm.2.2.2.2 i hlt).2.1.trans htl.2))
            refine mr_ild hx hb hE hP 10 (by decide) (gr_tgt G i) rfl (show _ < 7 by omega) dX5_need_57 ?_
            refine lv_ldc (own := RX5) (v := 1000000) hx hb hown (hts (.constant RX5 77 (1000000)) (by decide +kernel)) dX5_need_58 ?_
            refine lv_icmp_ne (tgt := 68) hx hb dX5_need_60 (by decide) (fun b60 => ?_) (fun b60 => ?_)
            · skip
              have q60 : ¬ fM d (gr_tgt G i) = 1000000 := fun q => b60 (i_eq (by rw [i_hi]; exact q))
              refine lv_aload_n hx hb dX5_need_68 rfl (lv_at hl 0 rfl) ?_
              refine va_get (D := en.1) (ci := 5) (v := .ref (bd 10)) (C := RX5) (T := TX5) (N := 16) hx hb hts iw_X5_need_X5 hown hE.1 hP 0 rfl rfl 13 (by decide) (hts (.fieldLink RX5 38 "CreditGameModel" "needs" "[I") (by decide +kernel)) (fun _ h9 => h9) rfl dX5_need_69 ?_
              refine lv_aload_n hx hb dX5_need_72 rfl (lv_at hl 0 rfl) ?_
              refine va_get (D := en.1) (ci := 5) (v := .ref (bd 4)) (C := RX5) (T := TX5) (N := 16) hx hb hts iw_X5_need_X5 hown hE.1 hP 0 rfl rfl 6 (by decide) (hts (.fieldLink RX5 19 "CreditGameModel" "to" "[I") (by decide +kernel)) (fun _ h9 => h9) rfl dX5_need_73 ?_
              refine lv_iload hx hb dX5_need_76 (lv_at hl 7 rfl) ?_
              refine mr_ild hx hb hE hP 4 (by decide) i rfl (show _ < 24 by omega) dX5_need_78 ?_
              refine lv_topi (fun z_78 ez_78 => ?_)
              obtain rfl : z_78 = (nI (gr_tgt G i)) := (ez_78.trans ((hm.2.2.2.2 i hlt).2.1.trans htl.2))
              refine mr_ild hx hb hE hP 10 (by decide) (gr_tgt G i) rfl (show _ < 7 by omega) dX5_need_79 ?_
              refine lv_iload_n hx hb dX5_need_80 rfl (lv_at hl 2 rfl) ?_
              refine lv_aload_n hx hb dX5_need_81 rfl (lv_at hl 0 rfl) ?_
              refine va_get (D := en.1) (ci := 5) (v := .ref (bd 5)) (C := RX5) (T := TX5) (N := 16) hx hb hts iw_X5_need_X5 hown hE.1 hP 0 rfl rfl 7 (by decide) (hts (.fieldLink RX5 22 "CreditGameModel" "weight" "[I") (by decide +kernel)) (fun _ h9 => h9) rfl dX5_need_82 ?_
              refine lv_iload hx hb dX5_need_85 (lv_at hl 7 rfl) ?_
              refine mr_ild hx hb hE hP 5 (by decide) i rfl (show _ < 24 by omega) dX5_need_87 ?_
              refine lv_topi (fun z_87 ez_87 => ?_)
              obtain rfl : z_87 = (gr_wt G i) := (ez_87.trans (hm.2.2.2.2 i hlt).2.2)
              refine lv_imul hx hb dX5_need_88 ?_
              refine lv_iload_n hx hb dX5_need_89 rfl (lv_at hl 3 rfl) ?_
              refine lv_isub hx hb dX5_need_90 ?_
              refine lv_topi (fun z1 hz1 => ?_)
              have hz2 := wt_val hm.1 hw hlt hz1
              refine lv_isub hx hb dX5_need_91 ?_
              refine lv_topi (fun y1 hy1 => ?_)
              have hfd : fM d (gr_tgt G i) = (d.1 10 (gr_tgt G i)).toInt := rfl
              have hy2 : y1.toInt = fM d (gr_tgt G i) - cr_w G pl p_ q_ i := by
                rw [hy1, i_sub (by omega) (by omega), hz2.1]
              refine lv_istore (lv' := [(8, .int y1), (0, .ref (bd 0)), (1, .int (nI j)), (2, .int tI), (3, .int oI), (4, .int (nI pl)), (5, .int 1), (6, .int got), (7, .int (nI i))]) hx hb dX5_need_92 hl (by decide) rfl (fun ls hl => ?_)
              refine lv_iload hx hb dX5_need_94 (lv_at hl 0 rfl) ?_
              refine lv_if_ge (tgt := 103) hx hb dX5_need_96 (by decide) (fun b96 => ?_) (fun b96 => ?_)
              · skip
                have q96 := i_le.mp b96
                rw [i_0] at q96
                have hcx : y1.toInt = (gm_ce (gr_tgt G) (cr_w G pl p_ q_) (fM d)) i := by unfold gm_ce; rw [if_neg q60, ← hy2]; omega
                refine lv_iload hx hb dX5_need_103 (lv_at hl 0 rfl) ?_
                refine lv_istore (lv' := [(8, .int y1), (0, .ref (bd 0)), (1, .int (nI j)), (2, .int tI), (3, .int oI), (4, .int (nI pl)), (5, .int 1), (6, .int got), (7, .int (nI i))]) hx hb dX5_need_105 hl (by decide) rfl (fun ls hl => ?_)
                refine lv_iload hx hb dX5_need_107 (lv_at hl 7 rfl) ?_
                refine lv_if_lt (tgt := 134) hx hb dX5_need_109 (by decide) (fun b109 => ?_) (fun b109 => ?_)
                · skip
                  have q109 := i_lt.mp b109
                  rw [i_0] at q109
                  refine lv_iload hx hb dX5_need_134 (lv_at hl 0 rfl) ?_
                  refine lv_goto (tgt := 141) hx hb dX5_need_136 (by decide) ?_
                  refine lv_istore (lv' := [(6, .int y1), (8, .int y1), (0, .ref (bd 0)), (1, .int (nI j)), (2, .int tI), (3, .int oI), (4, .int (nI pl)), (5, .int 1), (7, .int (nI i))]) hx hb dX5_need_141 hl (by decide) rfl (fun ls hl => ?_)
                  refine lv_iinc (v := (nI (i + 1))) (lv' := [(7, .int (nI (i + 1))), (6, .int y1), (8, .int y1), (0, .ref (bd 0)), (1, .int (nI j)), (2, .int tI), (3, .int oI), (4, .int (nI pl)), (5, .int 1)]) hx hb dX5_need_143 hl (k := 8) rfl (nI_1 _) (by decide) rfl (fun ls hl => ?_)
                  refine lv_goto (tgt := 24) hx hb dX5_need_146 (by decide) ?_
                  exact ih24 (i + 1) y1 _ (by omega) (by omega) (by rw [nd_in hin_]; exact nd_take hnd hcx (by omega) (by omega) (by first | exact Or.inl q109 | exact Or.inr ⟨fun q => (by first | omega | (cases q)), fun q => (by first | omega | (cases q))⟩)) (lv_sub hl [3, 4, 5, 6, 7, 8, 1, 0] rfl)
                · skip
                  have q109 : ¬ _ := fun q => b109 (i_lt.mpr q)
                  rw [i_0] at q109
                  refine lv_iload hx hb dX5_need_112 (lv_at hl 6 rfl) ?_
                  refine lv_if_eq (tgt := 127) hx hb dX5_need_114 (by decide) (fun b114 => absurd b114 (by decide)) (fun b114 => ?_)
                  refine lv_iload hx hb dX5_need_117 (lv_at hl 0 rfl) ?_
                  refine lv_iload hx hb dX5_need_119 (lv_at hl 7 rfl) ?_
                  refine lv_icmp_ge (tgt := 139) hx hb dX5_need_121 (by decide) (fun b121 => ?_) (fun b121 => ?_)
                  · skip
                    have q121 := i_le.mp b121
                    refine lv_iload hx hb dX5_need_139 (lv_at hl 7 rfl) ?_
                    refine lv_istore (lv' := [(6, .int got), (8, .int y1), (0, .ref (bd 0)), (1, .int (nI j)), (2, .int tI), (3, .int oI), (4, .int (nI pl)), (5, .int 1), (7, .int (nI i))]) hx hb dX5_need_141 hl (by decide) rfl (fun ls hl => ?_)
                    refine lv_iinc (v := (nI (i + 1))) (lv' := [(7, .int (nI (i + 1))), (6, .int got), (8, .int y1), (0, .ref (bd 0)), (1, .int (nI j)), (2, .int tI), (3, .int oI), (4, .int (nI pl)), (5, .int 1)]) hx hb dX5_need_143 hl (k := 8) rfl (nI_1 _) (by decide) rfl (fun ls hl => ?_)
                    refine lv_goto (tgt := 24) hx hb dX5_need_146 (by decide) ?_
                    exact ih24 (i + 1) got _ (by omega) (by omega) (by rw [nd_in hin_]; exact nd_keep hnd hcx (by omega) (by omega) ⟨q109, fun q => (by first | omega | (cases q)), fun q => (by first | omega | (cases q))⟩) (lv_sub hl [3, 4, 5, 6, 7, 8, 1, 0] rfl)
                  · skip
                    have q121 : ¬ _ := fun q => b121 (i_le.mpr q)
                    refine lv_goto (tgt := 134) hx hb dX5_need_124 (by decide) ?_
                    refine lv_iload hx hb dX5_need_134 (lv_at hl 0 rfl) ?_
                    refine lv_goto (tgt := 141) hx hb dX5_need_136 (by decide) ?_
                    refine lv_istore (lv' := [(6, .int y1), (8, .int y1), (0, .ref (bd 0)), (1, .int (nI j)), (2, .int tI), (3, .int oI), (4, .int (nI pl)), (5, .int 1), (7, .int (nI i))]) hx hb dX5_need_141 hl (by decide) rfl (fun ls hl => ?_)
                    refine lv_iinc (v := (nI (i + 1))) (lv' := [(7, .int (nI (i + 1))), (6, .int y1), (8, .int y1), (0, .ref (bd 0)), (1, .int (nI j)), (2, .int tI), (3, .int oI), (4, .int (nI pl)), (5, .int 1)]) hx hb dX5_need_143 hl (k := 8) rfl (nI_1 _) (by decide) rfl (fun ls hl => ?_)
                    refine lv_goto (tgt := 24) hx hb dX5_need_146 (by decide) ?_
                    exact ih24 (i + 1) y1 _ (by omega) (by omega) (by rw [nd_in hin_]; exact nd_take hnd hcx (by omega) (by omega) (by first | exact Or.inl q109 | exact Or.inr ⟨fun q => (by first | omega | (cases q)), fun q => (by first | omega | (cases q))⟩)) (lv_sub hl [3, 4, 5, 6, 7, 8, 1, 0] rfl)
              · skip
                have q96 : ¬ _ := fun q => b96 (i_le.mpr q)
                rw [i_0] at q96
                have hcx : (0 : Int32).toInt = (gm_ce (gr_tgt G) (cr_w G pl p_ q_) (fM d)) i := by unfold gm_ce; rw [if_neg q60, ← hy2, i_0]; omega
                have hc0 := i_0
                refine lv_iconst (v := 0) hx hb dX5_need_99 (by decide) ?_
                refine lv_goto (tgt := 105) hx hb dX5_need_100 (by decide) ?_
                refine lv_istore (lv' := [(8, .int 0), (0, .ref (bd 0)), (1, .int (nI j)), (2, .int tI), (3, .int oI), (4, .int (nI pl)), (5, .int 1), (6, .int got), (7, .int (nI i))]) hx hb dX5_need_105 hl (by decide) rfl (fun ls hl => ?_)
                refine lv_iload hx hb dX5_need_107 (lv_at hl 7 rfl) ?_
                refine lv_if_lt (tgt := 134) hx hb dX5_need_109 (by decide) (fun b109 => ?_) (fun b109 => ?_)
                · skip
                  have q109 := i_lt.mp b109
                  rw [i_0] at q109
                  refine lv_iload hx hb dX5_need_134 (lv_at hl 0 rfl) ?_
                  refine lv_goto (tgt := 141) hx hb dX5_need_136 (by decide) ?_
                  refine lv_istore (lv' := [(6, .int 0), (8, .int 0), (0, .ref (bd 0)), (1, .int (nI j)), (2, .int tI), (3, .int oI), (4, .int (nI pl)), (5, .int 1), (7, .int (nI i))]) hx hb dX5_need_141 hl (by decide) rfl (fun ls hl => ?_)
                  refine lv_iinc (v := (nI (i + 1))) (lv' := [(7, .int (nI (i + 1))), (6, .int 0), (8, .int 0), (0, .ref (bd 0)), (1, .int (nI j)), (2, .int tI), (3, .int oI), (4, .int (nI pl)), (5, .int 1)]) hx hb dX5_need_143 hl (k := 8) rfl (nI_1 _) (by decide) rfl (fun ls hl => ?_)
                  refine lv_goto (tgt := 24) hx hb dX5_need_146 (by decide) ?_
                  exact ih24 (i + 1) 0 _ (by omega) (by omega) (by rw [nd_in hin_]; exact nd_take hnd hcx (by omega) (by omega) (by first | exact Or.inl q109 | exact Or.inr ⟨fun q => (by first | omega | (cases q)), fun q => (by first | omega | (cases q))⟩)) (lv_sub hl [3, 4, 5, 6, 7, 8, 1, 0] rfl)
                · skip
                  have q109 : ¬ _ := fun q => b109 (i_lt.mpr q)
                  rw [i_0] at q109
                  refine lv_iload hx hb dX5_need_112 (lv_at hl 6 rfl) ?_
                  refine lv_if_eq (tgt := 127) hx hb dX5_need_114 (by decide) (fun b114 => absurd b114 (by decide)) (fun b114 => ?_)
                  refine lv_iload hx hb dX5_need_117 (lv_at hl 0 rfl) ?_
                  refine lv_iload hx hb dX5_need_119 (lv_at hl 7 rfl) ?_
                  refine lv_icmp_ge (tgt := 139) hx hb dX5_need_121 (by decide) (fun b121 => ?_) (fun b121 => ?_)
                  · skip
                    have q121 := i_le.mp b121
                    refine lv_iload hx hb dX5_need_139 (lv_at hl 7 rfl) ?_
                    refine lv_istore (lv' := [(6, .int got), (8, .int 0), (0, .ref (bd 0)), (1, .int (nI j)), (2, .int tI), (3, .int oI), (4, .int (nI pl)), (5, .int 1), (7, .int (nI i))]) hx hb dX5_need_141 hl (by decide) rfl (fun ls hl => ?_)
                    refine lv_iinc (v := (nI (i + 1))) (lv' := [(7, .int (nI (i + 1))), (6, .int got), (8, .int 0), (0, .ref (bd 0)), (1, .int (nI j)), (2, .int tI), (3, .int oI), (4, .int (nI pl)), (5, .int 1)]) hx hb dX5_need_143 hl (k := 8) rfl (nI_1 _) (by decide) rfl (fun ls hl => ?_)
                    refine lv_goto (tgt := 24) hx hb dX5_need_146 (by decide) ?_
                    exact ih24 (i + 1) got _ (by omega) (by omega) (by rw [nd_in hin_]; exact nd_keep hnd hcx (by omega) (by omega) ⟨q109, fun q => (by first | omega | (cases q)), fun q => (by first | omega | (cases q))⟩) (lv_sub hl [3, 4, 5, 6, 7, 8, 1, 0] rfl)
                  · skip
                    have q121 : ¬ _ := fun q => b121 (i_le.mpr q)
                    refine lv_goto (tgt := 134) hx hb dX5_need_124 (by decide) ?_
                    refine lv_iload hx hb dX5_need_134 (lv_at hl 0 rfl) ?_
                    refine lv_goto (tgt := 141) hx hb dX5_need_136 (by decide) ?_
                    refine lv_istore (lv' := [(6, .int 0), (8, .int 0), (0, .ref (bd 0)), (1, .int (nI j)), (2, .int tI), (3, .int oI), (4, .int (nI pl)), (5, .int 1), (7, .int (nI i))]) hx hb dX5_need_141 hl (by decide) rfl (fun ls hl => ?_)
                    refine lv_iinc (v := (nI (i + 1))) (lv' := [(7, .int (nI (i + 1))), (6, .int 0), (8, .int 0), (0, .ref (bd 0)), (1, .int (nI j)), (2, .int tI), (3, .int oI), (4, .int (nI pl)), (5, .int 1)]) hx hb dX5_need_143 hl (k := 8) rfl (nI_1 _) (by decide) rfl (fun ls hl => ?_)
                    refine lv_goto (tgt := 24) hx hb dX5_need_146 (by decide) ?_
                    exact ih24 (i + 1) 0 _ (by omega) (by omega) (by rw [nd_in hin_]; exact nd_take hnd hcx (by omega) (by omega) (by first | exact Or.inl q109 | exact Or.inr ⟨fun q => (by first | omega | (cases q)), fun q => (by first | omega | (cases q))⟩)) (lv_sub hl [3, 4, 5, 6, 7, 8, 1, 0] rfl)
            · skip
              have q60 : fM d (gr_tgt G i) = 1000000 := by show (d.1 10 (gr_tgt G i)).toInt = _; rw [b60, i_hi]
              refine lv_ldc (own := RX5) (v := 1000000) hx hb hown (hts (.constant RX5 77 (1000000)) (by decide +kernel)) dX5_need_63 ?_
              refine lv_goto (tgt := 92) hx hb dX5_need_65 (by decide) ?_
              refine lv_istore (lv' := [(8, .int 1000000), (0, .ref (bd 0)), (1, .int (nI j)), (2, .int tI), (3, .int oI), (4, .int (nI pl)), (5, .int 1), (6, .int got), (7, .int (nI i))]) hx hb dX5_need_92 hl (by decide) rfl (fun ls hl => ?_)
              refine lv_iload hx hb dX5_need_94 (lv_at hl 0 rfl) ?_
              refine lv_if_ge (tgt := 103) hx hb dX5_need_96 (by decide) (fun b96 => ?_) (fun b96 => absurd b96 (fun q => q (by decide)))
              have hcx : (1000000 : Int32).toInt = (gm_ce (gr_tgt G) (cr_w G pl p_ q_) (fM d)) i := by unfold gm_ce; rw [if_pos q60, i_hi]
              have hc6 := i_hi
              refine lv_iload hx hb dX5_need_103 (lv_at hl 0 rfl) ?_
              refine lv_istore (lv' := [(8, .int 1000000), (0, .ref (bd 0)), (1, .int (nI j)), (2, .int tI), (3, .int oI), (4, .int (nI pl)), (5, .int 1), (6, .int got), (7, .int (nI i))]) hx hb dX5_need_105 hl (by decide) rfl (fun ls hl => ?_)
              refine lv_iload hx hb dX5_need_107 (lv_at hl 7 rfl) ?_
              refine lv_if_lt (tgt := 134) hx hb dX5_need_109 (by decide) (fun b109 => ?_) (fun b109 => ?_)
              · skip
                have q109 := i_lt.mp b109
                rw [i_0] at q109
                refine lv_iload hx hb dX5_need_134 (lv_at hl 0 rfl) ?_
                refine lv_goto (tgt := 141) hx hb dX5_need_136 (by decide) ?_
                refine lv_istore (lv' := [(6, .int 1000000), (8, .int 1000000), (0, .ref (bd 0)), (1, .int (nI j)), (2, .int tI), (3, .int oI), (4, .int (nI pl)), (5, .int 1), (7, .int (nI i))]) hx hb dX5_need_141 hl (by decide) rfl (fun ls hl => ?_)
                refine lv_iinc (v := (nI (i + 1))) (lv' := [(7, .int (nI (i + 1))), (6, .int 1000000), (8, .int 1000000), (0, .ref (bd 0)), (1, .int (nI j)), (2, .int tI), (3, .int oI), (4, .int (nI pl)), (5, .int 1)]) hx hb dX5_need_143 hl (k := 8) rfl (nI_1 _) (by decide) rfl (fun ls hl => ?_)
                refine lv_goto (tgt := 24) hx hb dX5_need_146 (by decide) ?_
                exact ih24 (i + 1) 1000000 _ (by omega) (by omega) (by rw [nd_in hin_]; exact nd_take hnd hcx (by omega) (by omega) (by first | exact Or.inl q109 | exact Or.inr ⟨fun q => (by first | omega | (cases q)), fun q => (by first | omega | (cases q))⟩)) (lv_sub hl [3, 4, 5, 6, 7, 8, 1, 0] rfl)
              · skip
                have q109 : ¬ _ := fun q => b109 (i_lt.mpr q)
                rw [i_0] at q109
                refine lv_iload hx hb dX5_need_112 (lv_at hl 6 rfl) ?_
                refine lv_if_eq (tgt := 127) hx hb dX5_need_114 (by decide) (fun b114 => absurd b114 (by decide)) (fun b114 => ?_)
                refine lv_iload hx hb dX5_need_117 (lv_at hl 0 rfl) ?_
                refine lv_iload hx hb dX5_need_119 (lv_at hl 7 rfl) ?_
                refine lv_icmp_ge (tgt := 139) hx hb dX5_need_121 (by decide) (fun b121 => ?_) (fun b121 => ?_)
                · skip
                  have q121 := i_le.mp b121
                  refine lv_iload hx hb dX5_need_139 (lv_at hl 7 rfl) ?_
                  refine lv_istore (lv' := [(6, .int got), (8, .int 1000000), (0, .ref (bd 0)), (1, .int (nI j)), (2, .int tI), (3, .int oI), (4, .int (nI pl)), (5, .int 1), (7, .int (nI i))]) hx hb dX5_need_141 hl (by decide) rfl (fun ls hl => ?_)
                  refine lv_iinc (v := (nI (i + 1))) (lv' := [(7, .int (nI (i + 1))), (6, .int got), (8, .int 1000000), (0, .ref (bd 0)), (1, .int (nI j)), (2, .int tI), (3, .int oI), (4, .int (nI pl)), (5, .int 1)]) hx hb dX5_need_143 hl (k := 8) rfl (nI_1 _) (by decide) rfl (fun ls hl => ?_)
                  refine lv_goto (tgt := 24) hx hb dX5_need_146 (by decide) ?_
                  exact ih24 (i + 1) got _ (by omega) (by omega) (by rw [nd_in hin_]; exact nd_keep hnd hcx (by omega) (by omega) ⟨q109, fun q => (by first | omega | (cases q)), fun q => (by first | omega | (cases q))⟩) (lv_sub hl [3, 4, 5, 6, 7, 8, 1, 0] rfl)
                · skip
                  have q121 : ¬ _ := fun q => b121 (i_le.mpr q)
                  refine lv_goto (tgt := 134) hx hb dX5_need_124 (by decide) ?_
                  refine lv_iload hx hb dX5_need_134 (lv_at hl 0 rfl) ?_
                  refine lv_goto (tgt := 141) hx hb dX5_need_136 (by decide) ?_
                  refine lv_istore (lv' := [(6, .int 1000000), (8, .int 1000000), (0, .ref (bd 0)), (1, .int (nI j)), (2, .int tI), (3, .int oI), (4, .int (nI pl)), (5, .int 1), (7, .int (nI i))]) hx hb dX5_need_141 hl (by decide) rfl (fun ls hl => ?_)
                  refine lv_iinc (v := (nI (i + 1))) (lv' := [(7, .int (nI (i + 1))), (6, .int 1000000), (8, .int 1000000), (0, .ref (bd 0)), (1, .int (nI j)), (2, .int tI), (3, .int oI), (4, .int (nI pl)), (5, .int 1)]) hx hb dX5_need_143 hl (k := 8) rfl (nI_1 _) (by decide) rfl (fun ls hl => ?_)
                  refine lv_goto (tgt := 24) hx hb dX5_need_146 (by decide) ?_
                  exact ih24 (i + 1) 1000000 _ (by omega) (by omega) (by rw [nd_in hin_]; exact nd_take hnd hcx (by omega) (by omega) (by first | exact Or.inl q109 | exact Or.inr ⟨fun q => (by first | omega | (cases q)), fun q => (by first | omega | (cases q))⟩)) (lv_sub hl [3, 4, 5, 6, 7, 8, 1, 0] rfl)
          · skip
            skip
            have hnx : i ∉ gr_adj G j := (w37.resolve_left (fun q => absurd (q.1.symm.trans b40) (by decide))).2
            refine lv_goto (tgt := 143) hx hb dX5_need_43 (by decide) ?_
            refine lv_iinc (v := (nI (i + 1))) (lv' := [(7, .int (nI (i + 1))), (0, .ref (bd 0)), (1, .int (nI j)), (2, .int tI), (3, .int oI), (4, .int (nI pl)), (5, .int 1), (6, .int got)]) hx hb dX5_need_143 hl (k := 7) rfl (nI_1 _) (by decide) rfl (fun ls hl => ?_)
            refine lv_goto (tgt := 24) hx hb dX5_need_146 (by decide) ?_
            exact ih24 (i + 1) got _ (by omega) (by omega) (by rw [nd_out hnx]; exact hnd) (lv_sub hl [1, 2, 3, 4, 5, 6, 7, 0] rfl)
    exact key24 (gr_E G + 1) 0 (-1) _ (Nat.zero_le _) (by omega) (Or.inl ⟨rfl, by decide⟩) (lv_sub hl [3, 4, 5, 6, 7, 2, 1, 0] rfl)
