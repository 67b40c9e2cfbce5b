/-! ===== CreditGame: chooseFor, fixChosen, tellWalk ===== -/
/-- a vertex of the player that is not fixed -/
def gr_op (G : gr_T) (pl v : Nat) : Bool := decide (v < gr_n G) && (gr_own G v == nI pl) && (gr_fx G v == -1)
theorem gr_op_t {G : gr_T} {pl v : Nat} (h : gr_op G pl v = true) : v < gr_n G ∧ gr_own G v = nI pl ∧ gr_fx G v = -1 := by
  simp only [gr_op, Bool.and_eq_true, decide_eq_true_eq, beq_iff_eq] at h
  exact ⟨h.1.1, h.1.2, h.2⟩
theorem gr_op_i {G : gr_T} {pl v : Nat} (h1 : v < gr_n G) (h2 : gr_own G v = nI pl) (h3 : gr_fx G v = -1) : gr_op G pl v = true := by
  simp [gr_op, h1, h2, h3]
theorem gr_op_f {G : gr_T} {pl v : Nat} (h : ¬ (v < gr_n G ∧ gr_own G v = nI pl ∧ gr_fx G v = -1)) : gr_op G pl v = false := by
  cases q : gr_op G pl v with
  | false => rfl
  | true => exact absurd (gr_op_t q) h
noncomputable def gr_ch (G : gr_T) (pl v : Nat) : Int32 := if gr_op G pl v = true then nI (gr_best G v) else -1
noncomputable def gr_st (G : gr_T) (pl : Nat) : Nat → gr_T
  | 0 => G
  | k + 1 => if gr_op G pl k = true then gr_setF (gr_st G pl k) k (nI (gr_best G k)) else gr_st G pl k
def gr_cn (G : gr_T) (pl : Nat) : Nat → Nat
  | 0 => 0
  | k + 1 => if gr_op G pl k = true then gr_cn G pl k + 1 else gr_cn G pl k
theorem gr_st_eq (G : gr_T) (pl : Nat) : ∀ k, gr_n (gr_st G pl k) = gr_n G ∧ gr_E (gr_st G pl k) = gr_E G ∧ gr_src (gr_st G pl k) = gr_src G ∧ gr_own (gr_st G pl k) = gr_own G ∧ gr_tg (gr_st G pl k) = gr_tg G ∧ gr_wt (gr_st G pl k) = gr_wt G
  | 0 => ⟨rfl, rfl, rfl, rfl, rfl, rfl⟩
  | k + 1 => by
    simp only [gr_st]
    split
    · exact gr_st_eq G pl k
    · exact gr_st_eq G pl k
theorem gr_cn_le (G : gr_T) (pl : Nat) : ∀ k, gr_cn G pl k ≤ k
  | 0 => Nat.le_refl 0
  | k + 1 => by
    have := gr_cn_le G pl k
    simp only [gr_cn]
    split <;> omega
/-- the walk by best edges: the vertex and the sum after k edges -/
noncomputable def gr_gw (G : gr_T) (j : Nat) : Nat → Nat
  | 0 => j
  | k + 1 => gr_tgt G (gr_best G (gr_gw G j k))
noncomputable def gr_gs (G : gr_T) (j : Nat) : Nat → Int
  | 0 => 0
  | k + 1 => gr_gs G j k + gr_w G (gr_best G (gr_gw G j k))
/-- the walk comes back to its a-th vertex after t edges, for the first time -/
def gr_lp (G : gr_T) (j t a : Nat) : Prop := a < t ∧ t ≤ 7 ∧ gr_gw G j t = gr_gw G j a ∧ (∀ x y, x < t → y < t → gr_gw G j x = gr_gw G j y → x = y) ∧ ∀ x, x ≤ t → gr_gw G j x < gr_n G
theorem gr_lp_uniq {G : gr_T} {j t a t2 a2 : Nat} (h : gr_lp G j t a) (h2 : gr_lp G j t2 a2) : t = t2 ∧ a = a2 := by
  obtain ⟨p1, p2, p3, p4, p5⟩ := h
  obtain ⟨q1, q2, q3, q4, q5⟩ := h2
  rcases Nat.lt_trichotomy t t2 with q | q | q
  · have := q4 t a q (by omega) p3; omega
  · subst q
    exact ⟨rfl, p4 a a2 p1 q1 (by rw [← p3, ← q3])⟩
  · have := p4 t2 a2 q (by omega) q3; omega
/-- what of the walk is asked -/
def gr_wr (G : gr_T) (j wh : Nat) (r : Int32) : Prop := ∃ t a, gr_lp G j t a ∧ (wh = 0 → r = nI a) ∧ (wh = 1 → r = nI (t - a)) ∧ (wh = 2 → r.toInt = gr_gs G j t - gr_gs G j a) ∧ (wh = 3 → r = nI (gr_gw G j t))
/-- the walk's cells -/
def wp (G : gr_T) (j t : Nat) (c : Nat → Nat → Int32) : Prop := ∀ u, u < 7 → (c 16 u = -1 ∧ ∀ a, a < t → gr_gw G j a ≠ u) ∨ ∃ a, a < t ∧ gr_gw G j a = u ∧ c 16 u = nI a ∧ (c 17 u).toInt = gr_gs G j a
theorem wp_next {G : gr_T} {j t : Nat} {c c' : Nat → Nat → Int32} {su : Int32} (h : wp G j t c) (hn : ∀ a, a < t → gr_gw G j a ≠ gr_gw G j t) (hs : su.toInt = gr_gs G j t) (e16 : c' 16 = upd (c 16) (gr_gw G j t) (nI t)) (e17 : c' 17 = upd (c 17) (gr_gw G j t) su) : wp G j (t + 1) c' := by
  intro u hu
  rw [e16, e17]
  by_cases e : u = gr_gw G j t
  · rw [e, ud_at, ud_at]
    exact Or.inr ⟨t, by omega, rfl, rfl, hs⟩
  · rw [ud_ne e, ud_ne e]
    rcases h u hu with ⟨h1, h2⟩ | ⟨a, h1, h2, h3, h4⟩
    · refine Or.inl ⟨h1, fun a ha => ?_⟩
      by_cases ea : a = t
      · rw [ea]; exact fun q => e q.symm
      · exact h2 a (by omega)
    · exact Or.inr ⟨a, by omega, h2, h3, h4⟩
theorem gw_pigeon {G : gr_T} {j : Nat} (hn : gr_n G ≤ 7) (hd : ∀ x y, x < 7 → y < 7 → gr_gw G j x = gr_gw G j y → x = y) (hl : ∀ x, x ≤ 7 → gr_gw G j x < gr_n G) : ∃ a, a < 7 ∧ gr_gw G j a = gr_gw G j 7 := by
  apply Classical.byContradiction
  intro hno
  have hinj : ∀ x y, x < 8 → y < 8 → gr_gw G j x = gr_gw G j y → x = y := by
    intro x y hx hy hxy
    by_cases e1 : x = 7
    · by_cases e2 : y = 7
      · omega
      · exact absurd ⟨y, by omega, by rw [← hxy, e1]⟩ hno
    · by_cases e2 : y = 7
      · exact absurd ⟨x, by omega, by rw [hxy, e2]⟩ hno
      · exact hd x y (by omega) (by omega) hxy
  have hnd : ((List.range 8).map (gr_gw G j)).Nodup := by
    rw [List.nodup_iff_pairwise_ne, List.pairwise_map]
    refine List.Pairwise.imp_of_mem (R := fun a b => a ≠ b) (fun {a b} ha hb hab q => hab (hinj a b (List.mem_range.mp ha) (List.mem_range.mp hb) q)) ?_
    exact List.nodup_iff_pairwise_ne.mp List.nodup_range
  have := gm_len 7 _ hnd (fun x hx => by
    obtain ⟨k, hk, rfl⟩ := List.mem_map.mp hx
    have := hl k (by have := List.mem_range.mp hk; omega)
    omega)
  simp at this
theorem iw_X4_chooseFor_X4 : ∀ w ∈ wsX40, w ∈ wsX4_chooseFor := by decide +kernel
set_option maxHeartbeats 4000000 in
set_option maxRecDepth 100000 in
/--  -/
theorem ct_chooseFor (l : Launch) (en : en_T) (ad : Nat → Nat) (c : Nat → Nat → Int32) (hI : xw_I ad) (sz : Nat) {G : gr_T} (hg : gi G c) (hc : gr_cpl G) (hva : va G c) (pl : Nat) (hpl : pl < 2) : Met l yX4_chooseFor wsX4_chooseFor (rm_ 31 0 0) (ct_Pc en [.ref (ad 0), .int (nI pl)] (fun H => H.size = sz ∧ va_P en.1 vwCl (xw en ad c) H)) (va_Qv (fun c' => kx [14, 15, 20] c c' ∧ (∀ v, v < 7 → c' 20 v = gr_ch G pl v) ∧ ∀ v, v < 7 → gr_op G pl v = true → gr_best G v ∈ gr_adj G v) (fun c' t => va_P en.1 vwCl (xw en ad c') t.heap) (xw_A ad sz)) 0 0 (xw_A ad sz) := by
  refine Met.ofW (cc := cX4_chooseFor) (maxL := 4) (ret := none) (by decide) rfl ?_
  intro p e s m args below meth co s₁ B hml hv
  obtain ⟨rfl, hE, hsz, hP⟩ := hv
  subst hsz
  have hx := B.exec
  have hb := B.bytes
  have hr := B.returns
  have hts := atoms_spec (ws := wsX4_chooseFor) B.pre
  have hown : s.vm.findClass RX4 = some m.cls := findClass_of_methodNamed B.named
  have hlocks := B.notSynchronized
  have hS : va_S (xw_A ad s.heap.size) s.heap s.heap [] := va_S.rf
  have hl := lv_entry ([.ref (ad 0), .int (nI pl)]) (n := 4) (Nat.le_of_ble_eq_true rfl)
  rw [lg_entry_eq]
  generalize (lg_sl ([.ref (ad 0), .int (nI pl)]) ++ List.replicate (4 - (lg_sl ([.ref (ad 0), .int (nI pl)])).length) Slot.unset).toArray = ls at hl ⊢
  have hl : lv_has ls 4 [(0, .ref (ad 0)), (1, .int (nI pl))] := hl
  refine lv_iconst (v := (nI 0)) hx hb dX4_chooseFor_0 (by decide) ?_
  refine lv_istore_n (lv' := [(2, .int (nI 0)), (0, .ref (ad 0)), (1, .int (nI pl))]) hx hb dX4_chooseFor_1 rfl hl (by decide) rfl (fun ls hl => ?_)
  have key2 : ∀ (n_ : Nat) (i : Nat) (c_ : Nat → Nat → Int32) (H : Heap) (locs : List Loc) (ls : Array Slot), i ≤ 7 → 7 + 1 ≤ i + n_ → kx [14, 15, 20] c c_ → (∀ v, v < i → c_ 20 v = gr_ch G pl v) → (∀ v, v < i → gr_op G pl v = true → gr_best G v ∈ gr_adj G v) → va_P en.1 vwCl (xw en ad c_) H → va_S (xw_A ad s.heap.size) s.heap H locs → lv_has ls 4 [(0, .ref (ad 0)), (1, .int (nI pl)), (2, .int (nI i))] → W p l e (headSpec wsX4_chooseFor (rm_ 31 0 0)).room s m ([.ref (ad 0), .int (nI pl)] : List Value).toArray below meth co H locs 0 0 (MQ below (va_Qv (fun c' => kx [14, 15, 20] c c' ∧ (∀ v, v < 7 → c' 20 v = gr_ch G pl v) ∧ ∀ v, v < 7 → gr_op G pl v = true → gr_best G v ∈ gr_adj G v) (fun c' t => va_P en.1 vwCl (xw en ad c') t.heap) (xw_A ad s.heap.size)) ([.ref (ad 0), .int (nI pl)] : List Value).toArray s 0 0 (xw_A ad s.heap.size)) (F0 m 2 ls []) := by
    intro n_
    induction n_ with
    | zero =>
      intro i c_ H locs ls hi_ hin hkc hch hbm hP hS hl
      exact absurd hin (by omega)
    | succ n_ ih2 =>
      intro i c_ H locs ls hi_ hin hkc hch hbm hP hS hl
      have hgc := hg.kx hkc (by decide)
      have hvc : va G c_ := fun v hv => by rw [hkc 13 (by decide)]; exact hva v hv
      refine lv_iload_n hx hb dX4_chooseFor_2 rfl (lv_at hl 2 rfl) ?_
      refine lv_bipush (v := (nI 7)) hx hb dX4_chooseFor_3 (by decide) ?_
      refine lv_icmp_ge (tgt := 74) hx hb dX4_chooseFor_5 (by decide) (fun b5 => ?_) (fun b5 => ?_)
      · skip
        have hin9 : i = 7 := by
          rcases Nat.lt_or_ge i 7 with q | q
          · exact absurd b5 (nI_ge q (by omega))
          · omega
        subst hin9
        exact W.vret hx hb hr (fun t ht hW => ⟨⟨c_, rfl, ⟨hkc, hch, hbm⟩, by show va_P _ _ _ t.heap; rw [ht]; exact hP⟩, hS.F ht⟩) hS.2.2 dX4_chooseFor_74
      · skip
        have hlt : i < 7 := by
          rcases Nat.lt_or_ge i 7 with q | q
          · exact q
          · exact absurd (nI_le q (by omega)) b5
        refine lv_aload_n hx hb dX4_chooseFor_8 rfl (lv_at hl 0 rfl) ?_
        refine va_get (D := en.1) (ci := 4) (v := .ref (ad 1)) (C := RX4) (T := TX4) (N := 5) hx hb hts iw_X4_chooseFor_X4 hown hE.1 hP 0 rfl rfl 0 (by decide) (hts (.fieldLink RX4 10 "CreditGame" "graph" "LCreditGame$Graph;") (by decide +kernel)) (fun _ h9 => h9) rfl dX4_chooseFor_9 ?_
        refine lv_iload_n hx hb dX4_chooseFor_12 rfl (lv_at hl 2 rfl) ?_
        refine ro_calli (va_runVN (As := [.int (nI i)]) (rest := []) ⟨hx, hb, hml, hown, hts⟩ (ct_hasVertex l en ad c_ hgc (nI i)) ⟨va_cnB 1 hts gX4_chooseFor_X1_hasVertex_n144 rfl rfl rfl (hE.2 _ (List.mem_of_getElem? (i := 7) rfl)) (hts (.initialized RX1) (by decide +kernel)) (by decide +kernel) ⟨Nat.le_of_ble_eq_true rfl, Nat.le_of_ble_eq_true rfl⟩, hts (.instanceMethod yX1_hasVertex) (by decide +kernel), hts (.selects RX1 yX1_hasVertex yX1_hasVertex) (by decide +kernel)⟩ (ct_preV hE (va_recv hE.1 hP (ci := 1) (q0 := 1) rfl rfl) hP) rfl rfl hl.1 rfl (lv_room (Nat.le_of_ble_eq_true rfl)) dX4_chooseFor_13 ⟨Nat.le_of_ble_eq_true rfl, Nat.le_of_ble_eq_true rfl⟩) (fun r13 w13 => ?_)
        refine lv_if_eq (tgt := 47) hx hb dX4_chooseFor_16 (by decide) (fun b16 => ?_) (fun b16 => ?_)
        · skip
          skip
          have hop := gr_op_f (G := G) (pl := pl) (v := i) (fun q => hv_nlt w13 b16 q.1)
          refine lv_iconst (v := 0) hx hb dX4_chooseFor_47 (by decide) ?_
          refine lv_istore_n (lv' := [(3, .int 0), (0, .ref (ad 0)), (1, .int (nI pl)), (2, .int (nI i))]) hx hb dX4_chooseFor_48 rfl hl (by decide) rfl (fun ls hl => ?_)
          refine lv_aload_n hx hb dX4_chooseFor_49 rfl (lv_at hl 1 rfl) ?_
          refine va_get (D := en.1) (ci := 4) (v := .ref (ad 20)) (C := RX4) (T := TX4) (N := 5) hx hb hts iw_X4_chooseFor_X4 hown hE.1 hP 0 rfl rfl 4 (by decide) (hts (.fieldLink RX4 41 "CreditGame" "chosen" "[I") (by decide +kernel)) (fun _ h9 => h9) rfl dX4_chooseFor_50 ?_
          refine lv_iload_n hx hb dX4_chooseFor_53 rfl (lv_at hl 3 rfl) ?_
          refine lv_iload_n hx hb dX4_chooseFor_54 rfl (lv_at hl 0 rfl) ?_
          refine lv_if_eq (tgt := 66) hx hb dX4_chooseFor_55 (by decide) (fun b55 => ?_) (fun b55 => absurd b55 (fun q => q rfl))
          refine lv_iconst (v := (-1)) hx hb dX4_chooseFor_66 (by decide) ?_
          refine xr_ist hx hb hE hP hI hS 20 (by decide) i rfl (show _ < 7 by omega) dX4_chooseFor_67 (fun H locs hP hS => ?_)
          obtain ⟨c67, ec67⟩ : ∃ z : Nat → Nat → Int32, z = va_up c_ 20 (upd (c_ 20) i (-1)) := ⟨_, rfl⟩
          rw [← ec67] at hP
          refine lv_iinc (v := (nI (i + 1))) (lv' := [(2, .int (nI (i + 1))), (3, .int 0), (0, .ref (ad 0)), (1, .int (nI pl))]) hx hb dX4_chooseFor_68 hl (k := 3) rfl (nI_1 _) (by decide) rfl (fun ls hl => ?_)
          refine lv_goto (tgt := 2) hx hb dX4_chooseFor_71 (by decide) ?_
          exact ih2 (i + 1) c67 _ _ _ (by omega) (by omega) (by rw [ec67]; exact hkc.tr (kx.up (by decide))) (fun v h => by rw [ec67, up_at]; by_cases e9 : v = i; rw [e9, ud_at]; exact (by unfold gr_ch; rw [if_neg (by rw [hop]; decide)]); rw [ud_ne e9]; exact hch v (by omega)) (fun v h hv => by by_cases e9 : v = i; rw [e9]; exact absurd (e9 ▸ hv) (by rw [hop]; decide); exact hbm v (by omega) hv) hP hS (lv_sub hl [2, 3, 0] rfl)
        · skip
          have hin_ := hv_lt hg.n7 (by omega) w13 b16
          refine lv_aload_n hx hb dX4_chooseFor_19 rfl (lv_at hl 0 rfl) ?_
          refine va_get (D := en.1) (ci := 4) (v := .ref (ad 1)) (C := RX4) (T := TX4) (N := 5) hx hb hts iw_X4_chooseFor_X4 hown hE.1 hP 0 rfl rfl 0 (by decide) (hts (.fieldLink RX4 10 "CreditGame" "graph" "LCreditGame$Graph;") (by decide +kernel)) (fun _ h9 => h9) rfl dX4_chooseFor_20 ?_
          refine lv_iload_n hx hb dX4_chooseFor_23 rfl (lv_at hl 2 rfl) ?_
          refine ro_calli (va_runVN (As := [.int (nI i)]) (rest := []) ⟨hx, hb, hml, hown, hts⟩ (ct_ownerOf l en ad c_ hgc i hlt) ⟨va_cnB 1 hts gX4_chooseFor_X1_ownerOf_n156 rfl rfl rfl (hE.2 _ (List.mem_of_getElem? (i := 9) rfl)) (hts (.initialized RX1) (by decide +kernel)) (by decide +kernel) ⟨Nat.le_of_ble_eq_true rfl, Nat.le_of_ble_eq_true rfl⟩, hts (.instanceMethod yX1_ownerOf) (by decide +kernel), hts (.selects RX1 yX1_ownerOf yX1_ownerOf) (by decide +kernel)⟩ (ct_preV hE (va_recv hE.1 hP (ci := 1) (q0 := 1) rfl rfl) hP) rfl rfl hl.1 rfl (lv_room (Nat.le_of_ble_eq_true rfl)) dX4_chooseFor_24 ⟨Nat.le_of_ble_eq_true rfl, Nat.le_of_ble_eq_true rfl⟩) (fun r24 w24 => ?_)
          refine lv_iload_n hx hb dX4_chooseFor_27 rfl (lv_at hl 1 rfl) ?_
          refine lv_icmp_ne (tgt := 47) hx hb dX4_chooseFor_28 (by decide) (fun b28 => ?_) (fun b28 => ?_)
          · skip
            skip
            have hop := gr_op_f (G := G) (pl := pl) (v := i) (fun q => b28 (by rw [w24, if_pos q.1]; exact q.2.1))
            refine lv_iconst (v := 0) hx hb dX4_chooseFor_47 (by decide) ?_
            refine lv_istore_n (lv' := [(3, .int 0), (0, .ref (ad 0)), (1, .int (nI pl)), (2, .int (nI i))]) hx hb dX4_chooseFor_48 rfl hl (by decide) rfl (fun ls hl => ?_)
            refine lv_aload_n hx hb dX4_chooseFor_49 rfl (lv_at hl 1 rfl) ?_
            refine va_get (D := en.1) (ci := 4) (v := .ref (ad 20)) (C := RX4) (T := TX4) (N := 5) hx hb hts iw_X4_chooseFor_X4 hown hE.1 hP 0 rfl rfl 4 (by decide) (hts (.fieldLink RX4 41 "CreditGame" "chosen" "[I") (by decide +kernel)) (fun _ h9 => h9) rfl dX4_chooseFor_50 ?_
            refine lv_iload_n hx hb dX4_chooseFor_53 rfl (lv_at hl 3 rfl) ?_
            refine lv_iload_n hx hb dX4_chooseFor_54 rfl (lv_at hl 0 rfl) ?_
            refine lv_if_eq (tgt := 66) hx hb dX4_chooseFor_55 (by decide) (fun b55 => ?_) (fun b55 => absurd b55 (fun q => q rfl))
            refine lv_iconst (v := (-1)) hx hb dX4_chooseFor_66 (by decide) ?_
            refine xr_ist hx hb hE hP hI hS 20 (by decide) i rfl (show _ < 7 by omega) dX4_chooseFor_67 (fun H locs hP hS => ?_)
            obtain ⟨c67, ec67⟩ : ∃ z : Nat → Nat → Int32, z = va_up c_ 20 (upd (c_ 20) i (-1)) := ⟨_, rfl⟩
            rw [← ec67] at hP
            refine lv_iinc (v := (nI (i + 1))) (lv' := [(2, .int (nI (i + 1))), (3, .int 0), (0, .ref (ad 0)), (1, .int (nI pl))]) hx hb dX4_chooseFor_68 hl (k := 3) rfl (nI_1 _) (by decide) rfl (fun ls hl => ?_)
            refine lv_goto (tgt := 2) hx hb dX4_chooseFor_71 (by decide) ?_
            exact ih2 (i + 1) c67 _ _ _ (by omega) (by omega) (by rw [ec67]; exact hkc.tr (kx.up (by decide))) (fun v h => by rw [ec67, up_at]; by_cases e9 : v = i; rw [e9, ud_at]; exact (by unfold gr_ch; rw [if_neg (by rw [hop]; decide)]); rw [ud_ne e9]; exact hch v (by omega)) (fun v h hv => by by_cases e9 : v = i; rw [e9]; exact absurd (e9 ▸ hv) (by rw [hop]; decide); exact hbm v (by omega) hv) hP hS (lv_sub hl [2, 3, 0] rfl)
          · skip
            refine lv_aload_n hx hb dX4_chooseFor_31 rfl (lv_at hl 0 rfl) ?_
            refine va_get (D := en.1) (ci := 4) (v := .ref (ad 1)) (C := RX4) (T := TX4) (N := 5) hx hb hts iw_X4_chooseFor_X4 hown hE.1 hP 0 rfl rfl 0 (by decide) (hts (.fieldLink RX4 10 "CreditGame" "graph" "LCreditGame$Graph;") (by decide +kernel)) (fun _ h9 => h9) rfl dX4_chooseFor_32 ?_
            refine lv_iload_n hx hb dX4_chooseFor_35 rfl (lv_at hl 2 rfl) ?_
            refine ro_calli (va_runVN (As := [.int (nI i)]) (rest := []) ⟨hx, hb, hml, hown, hts⟩ (ct_fixedOf l en ad c_ hgc i hlt) ⟨va_cnB 1 hts gX4_chooseFor_X1_fixedOf_n94 rfl rfl rfl (hE.2 _ (List.mem_of_getElem? (i := 29) rfl)) (hts (.initialized RX1) (by decide +kernel)) (by decide +kernel) ⟨Nat.le_of_ble_eq_true rfl, Nat.le_of_ble_eq_true rfl⟩, hts (.instanceMethod yX1_fixedOf) (by decide +kernel), hts (.selects RX1 yX1_fixedOf yX1_fixedOf) (by decide +kernel)⟩ (ct_preV hE (va_recv hE.1 hP (ci := 1) (q0 := 1) rfl rfl) hP) rfl rfl hl.1 rfl (lv_room (Nat.le_of_ble_eq_true rfl)) dX4_chooseFor_36 ⟨Nat.le_of_ble_eq_true rfl, Nat.le_of_ble_eq_true rfl⟩) (fun r36 w36 => ?_)
            refine lv_iconst (v := (-1)) hx hb dX4_chooseFor_39 (by decide) ?_
            refine lv_icmp_ne (tgt := 47) hx hb dX4_chooseFor_40 (by decide) (fun b40 => ?_) (fun b40 => ?_)
            · skip
              skip
              have hop := gr_op_f (G := G) (pl := pl) (v := i) (fun q => b40 (by rw [w36, if_pos q.1]; exact q.2.2))
              refine lv_iconst (v := 0) hx hb dX4_chooseFor_47 (by decide) ?_
              refine lv_istore_n (lv' := [(3, .int 0), (0, .ref (ad 0)), (1, .int (nI pl)), (2, .int (nI i))]) hx hb dX4_chooseFor_48 rfl hl (by decide) rfl (fun ls hl => ?_)
              refine lv_aload_n hx hb dX4_chooseFor_49 rfl (lv_at hl 1 rfl) ?_
              refine va_get (D := en.1) (ci := 4) (v := .ref (ad 20)) (C := RX4) (T := TX4) (N := 5) hx hb hts iw_X4_chooseFor_X4 hown hE.1 hP 0 rfl rfl 4 (by decide) (hts (.fieldLink RX4 41 "CreditGame" "chosen" "[I") (by decide +kernel)) (fun _ h9 => h9) rfl dX4_chooseFor_50 ?_
              refine lv_iload_n hx hb dX4_chooseFor_53 rfl (lv_at hl 3 rfl) ?_
              refine lv_iload_n hx hb dX4_chooseFor_54 rfl (lv_at hl 0 rfl) ?_
              refine lv_if_eq (tgt := 66) hx hb dX4_chooseFor_55 (by decide) (fun b55 => ?_) (fun b55 => absurd b55 (fun q => q rfl))
              refine lv_iconst (v := (-1)) hx hb dX4_chooseFor_66 (by decide) ?_
              refine xr_ist hx hb hE hP hI hS 20 (by decide) i rfl (show _ < 7 by omega) dX4_chooseFor_67 (fun H locs hP hS => ?_)
              obtain ⟨c67, ec67⟩ : ∃ z : Nat → Nat → Int32, z = va_up c_ 20 (upd (c_ 20) i (-1)) := ⟨_, rfl⟩
              rw [← ec67] at hP
              refine lv_iinc (v := (nI (i + 1))) (lv' := [(2, .int (nI (i + 1))), (3, .int 0), (0, .ref (ad 0)), (1, .int (nI pl))]) hx hb dX4_chooseFor_68 hl (k := 3) rfl (nI_1 _) (by decide) rfl (fun ls hl => ?_)
              refine lv_goto (tgt := 2) hx hb dX4_chooseFor_71 (by decide) ?_
              exact ih2 (i + 1) c67 _ _ _ (by omega) (by omega) (by rw [ec67]; exact hkc.tr (kx.up (by decide))) (fun v h => by rw [ec67, up_at]; by_cases e9 : v = i; rw [e9, ud_at]; exact (by unfold gr_ch; rw [if_neg (by rw [hop]; decide)]); rw [ud_ne e9]; exact hch v (by omega)) (fun v h hv => by by_cases e9 : v = i; rw [e9]; exact absurd (e9 ▸ hv) (by rw [hop]; decide); exact hbm v (by omega) hv) hP hS (lv_sub hl [2, 3, 0] rfl)
            · skip
              skip
              have hop := gr_op_i (G := G) (pl := pl) (v := i) hin_ (by rw [← b28, w24, if_pos hin_]) (by rw [← b40, w36, if_pos hin_])
              refine lv_iconst (v := 1) hx hb dX4_chooseFor_43 (by decide) ?_
              refine lv_goto (tgt := 48) hx hb dX4_chooseFor_44 (by decide) ?_
              refine lv_istore_n (lv' := [(3, .int 1), (0, .ref (ad 0)), (1, .int (nI pl)), (2, .int (nI i))]) hx hb dX4_chooseFor_48 rfl hl (by decide) rfl (fun ls hl => ?_)
              refine lv_aload_n hx hb dX4_chooseFor_49 rfl (lv_at hl 1 rfl) ?_
              refine va_get (D := en.1) (ci := 4) (v := .ref (ad 20)) (C := RX4) (T := TX4) (N := 5) hx hb hts iw_X4_chooseFor_X4 hown hE.1 hP 0 rfl rfl 4 (by decide) (hts (.fieldLink RX4 41 "CreditGame" "chosen" "[I") (by decide +kernel)) (fun _ h9 => h9) rfl dX4_chooseFor_50 ?_
              refine lv_iload_n hx hb dX4_chooseFor_53 rfl (lv_at hl 3 rfl) ?_
              refine lv_iload_n hx hb dX4_chooseFor_54 rfl (lv_at hl 0 rfl) ?_
              refine lv_if_eq (tgt := 66) hx hb dX4_chooseFor_55 (by decide) (fun b55 => absurd b55 (by decide)) (fun b55 => ?_)
              refine lv_aload_n hx hb dX4_chooseFor_58 rfl (lv_at hl 1 rfl) ?_
              refine lv_iload_n hx hb dX4_chooseFor_59 rfl (lv_at hl 3 rfl) ?_
              refine xr_calli (va_runV (As := [.int (nI i)]) (rest := [.int (nI i), .ref (ad 20)]) ⟨hx, hb, hml, hown, hts⟩ (ct_bestEdge l en ad c_ hI _ hgc hc hvc i hin_) (cwV 1 hts gX4_chooseFor_X4_bestEdge rfl rfl rfl (by decide +kernel) ⟨Nat.le_of_ble_eq_true rfl, Nat.le_of_ble_eq_true rfl⟩) (ct_preV hE (va_recv hE.1 hP (ci := 4) (q0 := 0) rfl rfl) ⟨rfl, hP⟩) rfl rfl hl.1 rfl (lv_room (Nat.le_of_ble_eq_true rfl)) dX4_chooseFor_60 ⟨Nat.le_of_ble_eq_true rfl, Nat.le_of_ble_eq_true rfl⟩) hS (fun r60 c60 H locs w60 hP hS => ?_)
              refine lv_goto (tgt := 67) hx hb dX4_chooseFor_63 (by decide) ?_
              refine xr_ist hx hb hE hP hI hS 20 (by decide) i rfl (show _ < 7 by omega) dX4_chooseFor_67 (fun H locs hP hS => ?_)
              obtain ⟨c67, ec67⟩ : ∃ z : Nat → Nat → Int32, z = va_up c60 20 (upd (c60 20) i r60) := ⟨_, rfl⟩
              rw [← ec67] at hP
              refine lv_iinc (v := (nI (i + 1))) (lv' := [(2, .int (nI (i + 1))), (3, .int 1), (0, .ref (ad 0)), (1, .int (nI pl))]) hx hb dX4_chooseFor_68 hl (k := 3) rfl (nI_1 _) (by decide) rfl (fun ls hl => ?_)
              refine lv_goto (tgt := 2) hx hb dX4_chooseFor_71 (by decide) ?_
              exact ih2 (i + 1) c67 _ _ _ (by omega) (by omega) (by rw [ec67]; exact (hkc.tr (w60.2.2.wide (by decide))).tr (kx.up (by decide))) (fun v h => by rw [ec67, up_at]; by_cases e9 : v = i; rw [e9, ud_at]; exact (by unfold gr_ch; rw [if_pos hop, w60.1]); rw [ud_ne e9, w60.2.2 20 (by decide)]; exact hch v (by omega)) (fun v h hv => by by_cases e9 : v = i; rw [e9]; exact w60.2.1; exact hbm v (by omega) hv) hP hS (lv_sub hl [2, 3, 0] rfl)
  exact key2 (7 + 1) 0 c _ _ _ (by omega) (by omega) kx.rf (fun v h => absurd h (Nat.not_lt_zero v)) (fun v h => absurd h (Nat.not_lt_zero v)) hP hS (lv_sub hl [1, 2, 0] rfl)
theorem iw_X4_fixChosen_X4 : ∀ w ∈ wsX40, w ∈ wsX4_fixChosen := by decide +kernel
set_option maxHeartbeats 4000000 in
set_option maxRecDepth 100000 in
/--  -/
theorem ct_fixChosen (l : Launch) (en : en_T) (ad : Nat → Nat) (c : Nat → Nat → Int32) (hI : xw_I ad) (sz : Nat) {G : gr_T} (hg : gi G c) (pl : Nat) (hch : ∀ v, v < 7 → c 20 v = gr_ch G pl v) (hbm : ∀ v, v < 7 → gr_op G pl v = true → gr_best G v ∈ gr_adj G v) : Met l yX4_fixChosen wsX4_fixChosen (rm_ 3 0 0) (ct_Pc en [.ref (ad 0)] (fun H => H.size = sz ∧ va_P en.1 vwCl (xw en ad c) H)) (va_Qi (fun r c' => r = nI (gr_cn G pl 7) ∧ gi (gr_st G pl 7) c' ∧ kx [7] c c') (fun c' t => va_P en.1 vwCl (xw en ad c') t.heap) (xw_A ad sz)) 0 0 (xw_A ad sz) := by
  refine Met.ofW (cc := cX4_fixChosen) (maxL := 3) (ret := (some .int)) (by decide) rfl ?_
  intro p e s m args below meth co s₁ B hml hv
  obtain ⟨rfl, hE, hsz, hP⟩ := hv
  subst hsz
  have hx := B.exec
  have hb := B.bytes
  have hr := B.returns
  have hts := atoms_spec (ws := wsX4_fixChosen) B.pre
  have hown : s.vm.findClass RX4 = some m.cls := findClass_of_methodNamed B.named
  have hlocks := B.notSynchronized
  have hS : va_S (xw_A ad s.heap.size) s.heap s.heap [] := va_S.rf
  have hl := lv_entry ([.ref (ad 0)]) (n := 3) (Nat.le_of_ble_eq_true rfl)
  rw [lg_entry_eq]
  generalize (lg_sl ([.ref (ad 0)]) ++ List.replicate (3 - (lg_sl ([.ref (ad 0)])).length) Slot.unset).toArray = ls at hl ⊢
  have hl : lv_has ls 3 [(0, .ref (ad 0))] := hl
  refine lv_iconst (v := (nI 0)) hx hb dX4_fixChosen_0 (by decide) ?_
  refine lv_istore_n (lv' := [(1, .int (nI 0)), (0, .ref (ad 0))]) hx hb dX4_fixChosen_1 rfl hl (by decide) rfl (fun ls hl => ?_)
  refine lv_iconst (v := (nI 0)) hx hb dX4_fixChosen_2 (by decide) ?_
  refine lv_istore_n (lv' := [(2, .int (nI 0)), (1, .int (nI 0)), (0, .ref (ad 0))]) hx hb dX4_fixChosen_3 rfl hl (by decide) rfl (fun ls hl => ?_)
  have key4 : ∀ (n_ : Nat) (i cn : Nat) (c_ : Nat → Nat → Int32) (H : Heap) (locs : List Loc) (ls : Array Slot), i ≤ 7 → 7 + 1 ≤ i + n_ → cn = gr_cn G pl i → gi (gr_st G pl i) c_ → kx [7] c c_ → va_P en.1 vwCl (xw en ad c_) H → va_S (xw_A ad s.heap.size) s.heap H locs → lv_has ls 3 [(0, .ref (ad 0)), (1, .int (nI cn)), (2, .int (nI i))] → W p l e (headSpec wsX4_fixChosen (rm_ 3 0 0)).room s m ([.ref (ad 0)] : List Value).toArray below meth co H locs 0 0 (MQ below (va_Qi (fun r c' => r = nI (gr_cn G pl 7) ∧ gi (gr_st G pl 7) c' ∧ kx [7] c c') (fun c' t => va_P en.1 vwCl (xw en ad c') t.heap) (xw_A ad s.heap.size)) ([.ref (ad 0)] : List Value).toArray s 0 0 (xw_A ad s.heap.size)) (F0 m 4 ls []) := by
    intro n_
    induction n_ with
    | zero =>
      intro i cn c_ H locs ls hi_ hin hcn hgc hkc hP hS hl
      exact absurd hin (by omega)
    | succ n_ ih4 =>
      intro i cn c_ H locs ls hi_ hin hcn hgc hkc hP hS hl
      refine lv_iload_n hx hb dX4_fixChosen_4 rfl (lv_at hl 2 rfl) ?_
      refine lv_bipush (v := (nI 7)) hx hb dX4_fixChosen_5 (by decide) ?_
      refine lv_icmp_ge (tgt := 43) hx hb dX4_fixChosen_7 (by decide) (fun b7 => ?_) (fun b7 => ?_)
      · skip
        have hin9 : i = 7 := by
          rcases Nat.lt_or_ge i 7 with q | q
          · exact absurd b7 (nI_ge q (by omega))
          · omega
        subst hin9
        refine lv_iload_n hx hb dX4_fixChosen_43 rfl (lv_at hl 1 rfl) ?_
        exact W.iret (v := (nI cn)) hx hb hr (fun t ht hW => ⟨⟨_, c_, rfl, ⟨by rw [hcn], hgc, hkc⟩, by show va_P _ _ _ t.heap; rw [ht]; exact hP⟩, hS.F ht⟩) hS.2.2 dX4_fixChosen_44
      · skip
        have hlt : i < 7 := by
          rcases Nat.lt_or_ge i 7 with q | q
          · exact q
          · exact absurd (nI_le q (by omega)) b7
        refine lv_aload_n hx hb dX4_fixChosen_10 rfl (lv_at hl 0 rfl) ?_
        refine va_get (D := en.1) (ci := 4) (v := .ref (ad 20)) (C := RX4) (T := TX4) (N := 5) hx hb hts iw_X4_fixChosen_X4 hown hE.1 hP 0 rfl rfl 4 (by decide) (hts (.fieldLink RX4 41 "CreditGame" "chosen" "[I") (by decide +kernel)) (fun _ h9 => h9) rfl dX4_fixChosen_11 ?_
        refine lv_iload_n hx hb dX4_fixChosen_14 rfl (lv_at hl 2 rfl) ?_
        refine xr_ild hx hb hE hP 20 (by decide) i rfl (show _ < 7 by omega) dX4_fixChosen_15 ?_
        refine lv_iconst (v := (-1)) hx hb dX4_fixChosen_16 (by decide) ?_
        refine lv_icmp_eq (tgt := 37) hx hb dX4_fixChosen_17 (by decide) (fun b17 => ?_) (fun b17 => ?_)
        · skip
          skip
          have hop : gr_op G pl i = false := by
            cases q : gr_op G pl i with
            | false => rfl
            | true =>
              have h1 := (gr_adj_mem hg.ok (gr_op_t q).1 (hbm i hlt q)).1
              rw [hkc 20 (by decide), hch i hlt] at b17
              unfold gr_ch at b17
              rw [if_pos q] at b17
              exact absurd b17 (nI_ne1 (by have := hg.e24; omega))
          refine lv_iinc (v := (nI (i + 1))) (lv' := [(2, .int (nI (i + 1))), (0, .ref (ad 0)), (1, .int (nI cn))]) hx hb dX4_fixChosen_37 hl (k := 2) rfl (nI_1 _) (by decide) rfl (fun ls hl => ?_)
          refine lv_goto (tgt := 4) hx hb dX4_fixChosen_40 (by decide) ?_
          exact ih4 (i + 1) cn c_ _ _ _ (by omega) (by omega) (by simp only [gr_cn, hop, Bool.false_eq_true, if_false]; exact hcn) (by simp only [gr_st, hop, Bool.false_eq_true, if_false]; exact hgc) hkc hP hS (lv_sub hl [1, 2, 0] rfl)
        · skip
          skip
          have hop : gr_op G pl i = true := by
            cases q : gr_op G pl i with
            | true => rfl
            | false =>
              exfalso
              rw [hkc 20 (by decide), hch i hlt] at b17
              unfold gr_ch at b17
              rw [if_neg (by rw [q]; decide)] at b17
              exact b17 rfl
          have hci : c_ 20 i = nI (gr_best G i) := by
            rw [hkc 20 (by decide), hch i hlt]
            unfold gr_ch
            rw [if_pos hop]
          have hst := gr_st_eq G pl i
          have hbe := gr_adj_mem hg.ok (gr_op_t hop).1 (hbm i hlt hop)
          refine lv_aload_n hx hb dX4_fixChosen_20 rfl (lv_at hl 0 rfl) ?_
          refine va_get (D := en.1) (ci := 4) (v := .ref (ad 1)) (C := RX4) (T := TX4) (N := 5) hx hb hts iw_X4_fixChosen_X4 hown hE.1 hP 0 rfl rfl 0 (by decide) (hts (.fieldLink RX4 10 "CreditGame" "graph" "LCreditGame$Graph;") (by decide +kernel)) (fun _ h9 => h9) rfl dX4_fixChosen_21 ?_
          refine lv_iload_n hx hb dX4_fixChosen_24 rfl (lv_at hl 2 rfl) ?_
          refine lv_aload_n hx hb dX4_fixChosen_25 rfl (lv_at hl 0 rfl) ?_
          refine va_get (D := en.1) (ci := 4) (v := .ref (ad 20)) (C := RX4) (T := TX4) (N := 5) hx hb hts iw_X4_fixChosen_X4 hown hE.1 hP 0 rfl rfl 4 (by decide) (hts (.fieldLink RX4 41 "CreditGame" "chosen" "[I") (by decide +kernel)) (fun _ h9 => h9) rfl dX4_fixChosen_26 ?_
          refine lv_iload_n hx hb dX4_fixChosen_29 rfl (lv_at hl 2 rfl) ?_
          refine xr_ild hx hb hE hP 20 (by decide) i rfl (show _ < 7 by omega) dX4_fixChosen_30 ?_
          refine xr_callv (va_runVN (As := [.int (nI i), .int (c_ 20 i)]) (rest := []) ⟨hx, hb, hml, hown, hts⟩ (ct_setFixed l en ad c_ hI _ hgc i (by rw [hst.1]; exact (gr_op_t hop).1) (c_ 20 i) (Or.inr ⟨gr_best G i, by rw [hst.2.1]; exact hbe.1, hci, by rw [hst.2.2.1]; exact hbe.2⟩)) ⟨va_cnB 2 hts gX4_fixChosen_X1_setFixed_n90 rfl rfl rfl (hE.2 _ (List.mem_of_getElem? (i := 28) rfl)) (hts (.initialized RX1) (by decide +kernel)) (by decide +kernel) ⟨Nat.le_of_ble_eq_true rfl, Nat.le_of_ble_eq_true rfl⟩, hts (.instanceMethod yX1_setFixed) (by decide +kernel), hts (.selects RX1 yX1_setFixed yX1_setFixed) (by decide +kernel)⟩ (ct_preV hE (va_recv hE.1 hP (ci := 1) (q0 := 1) rfl rfl) ⟨rfl, hP⟩) rfl rfl hl.1 rfl (lv_room (Nat.le_of_ble_eq_true rfl)) dX4_fixChosen_31 ⟨Nat.le_of_ble_eq_true rfl, Nat.le_of_ble_eq_true rfl⟩) hS (fun c31 H locs w31 hP hS => ?_)
          refine lv_iinc (v := (nI (cn + 1))) (lv' := [(1, .int (nI (cn + 1))), (0, .ref (ad 0)), (2, .int (nI i))]) hx hb dX4_fixChosen_34 hl (k := 1) rfl (nI_1 _) (by decide) rfl (fun ls hl => ?_)
          refine lv_iinc (v := (nI (i + 1))) (lv' := [(2, .int (nI (i + 1))), (1, .int (nI (cn + 1))), (0, .ref (ad 0))]) hx hb dX4_fixChosen_37 hl (k := 2) rfl (nI_1 _) (by decide) rfl (fun ls hl => ?_)
          refine lv_goto (tgt := 4) hx hb dX4_fixChosen_40 (by decide) ?_
          exact ih4 (i + 1) (cn + 1) c31 _ _ _ (by omega) (by omega) (by simp only [gr_cn, hop, if_true]; rw [hcn]) (by simp only [gr_st, hop, if_true]; have := w31.1; rw [hci] at this; exact this) (hkc.tr w31.2) hP hS (lv_sub hl [2, 1, 0] rfl)
  exact key4 (7 + 1) 0 0 c _ _ _ (by omega) (by omega) rfl hg kx.rf hP hS (lv_sub hl [2, 1, 0] rfl)
theorem gs_bd {G : gr_T} (hg : gf_ok G) {j : Nat} (hb : ∀ v, v < gr_n G → gr_best G v ∈ gr_adj G v) : ∀ a, (∀ x, x ≤ a → gr_gw G j x < gr_n G) → -(9 * (a : Int)) ≤ gr_gs G j a ∧ gr_gs G j a ≤ 9 * (a : Int)
  | 0, _ => by simp [gr_gs]
  | a + 1, h => by
    have h1 := gs_bd hg hb a (fun x hx => h x (by omega))
    have h2 := gr_ws hg _ (h a (by omega)) _ (hb _ (h a (by omega)))
    simp only [gr_gs]
    omega
theorem iw_X4_tellWalk_X4 : ∀ w ∈ wsX40, w ∈ wsX4_tellWalk := by decide +kernel
set_option maxHeartbeats 4000000 in
set_option maxRecDepth 100000 in
/--  -/
theorem ct_tellWalk (l : Launch) (en : en_T) (ad : Nat → Nat) (c : Nat → Nat → Int32) (hI : xw_I ad) (sz : Nat) {G : gr_T} (hg : gi G c) (hc : gr_cpl G) (hva : va G c) (hbm : ∀ v, v < gr_n G → gr_best G v ∈ gr_adj G v) (j : Nat) (hj : j < gr_n G) (wh : Nat) (hwh : wh < 4) : Met l yX4_tellWalk wsX4_tellWalk (rm_ 31 0 0) (ct_Pc en [.ref (ad 0), .int (nI j), .int (nI wh)] (fun H => H.size = sz ∧ va_P en.1 vwCl (xw en ad c) H)) (va_Qi (fun r c' => gr_wr G j wh r ∧ kx [14, 15, 16, 17] c c') (fun c' t => va_P en.1 vwCl (xw en ad c') t.heap) (xw_A ad sz)) 0 0 (xw_A ad sz) := by
  refine Met.ofW (cc := cX4_tellWalk) (maxL := 7) (ret := (some .int)) (by decide) rfl ?_
  intro p e s m args below meth co s₁ B hml hv
  obtain ⟨rfl, hE, hsz, hP⟩ := hv
  subst hsz
  have hx := B.exec
  have hb := B.bytes
  have hr := B.returns
  have hts := atoms_spec (ws := wsX4_tellWalk) B.pre
  have hown : s.vm.findClass RX4 = some m.cls := findClass_of_methodNamed B.named
  have hlocks := B.notSynchronized
  have hS : va_S (xw_A ad s.heap.size) s.heap s.heap [] := va_S.rf
  have hl := lv_entry ([.ref (ad 0), .int (nI j), .int (nI wh)]) (n := 7) (Nat.le_of_ble_eq_true rfl)
  rw [lg_entry_eq]
  generalize (lg_sl ([.ref (ad 0), .int (nI j), .int (nI wh)]) ++ List.replicate (7 - (lg_sl ([.ref (ad 0), .int (nI j), .int (nI wh)])).length) Slot.unset).toArray = ls at hl ⊢
  have hl : lv_has ls 7 [(0, .ref (ad 0)), (1, .int (nI j)), (2, .int (nI wh))] := hl
  refine lv_aload_n hx hb dX4_tellWalk_0 rfl (lv_at hl 0 rfl) ?_
  refine va_get (D := en.1) (ci := 4) (v := .ref (ad 4)) (C := RX4) (T := TX4) (N := 5) hx hb hts iw_X4_tellWalk_X4 hown hE.1 hP 0 rfl rfl 3 (by decide) (hts (.fieldLink RX4 37 "CreditGame" "walked" "LCreditGame$Path;") (by decide +kernel)) (fun _ h9 => h9) rfl dX4_tellWalk_1 ?_
  refine xr_callv (va_runVN (As := []) (rest := []) ⟨hx, hb, hml, hown, hts⟩ (ct_clear_w l en ad c hI _) ⟨va_cnB 0 hts gX4_tellWalk_X2_clear_n168 rfl rfl rfl (hE.2 _ (List.mem_of_getElem? (i := 13) rfl)) (hts (.initialized RX2) (by decide +kernel)) (by decide +kernel) ⟨Nat.le_of_ble_eq_true rfl, Nat.le_of_ble_eq_true rfl⟩, hts (.instanceMethod yX2_clear) (by decide +kernel), hts (.selects RX2 yX2_clear yX2_clear) (by decide +kernel)⟩ (ct_preV hE (va_recv hE.1 hP (ci := 2) (q0 := 4) rfl rfl) ⟨rfl, hP⟩) rfl rfl hl.1 rfl (lv_room (Nat.le_of_ble_eq_true rfl)) dX4_tellWalk_4 ⟨Nat.le_of_ble_eq_true rfl, Nat.le_of_ble_eq_true rfl⟩) hS (fun c4 H locs w4 hP hS => ?_)
  obtain ⟨f4, e4, hf4⟩ := w4
  have hg1 : gi G c4 := by rw [e4]; exact hg.up (by omega)
  refine lv_iload_n hx hb dX4_tellWalk_7 rfl (lv_at hl 1 rfl) ?_
  refine lv_istore_n (lv' := [(3, .int (nI j)), (0, .ref (ad 0)), (1, .int (nI j)), (2, .int (nI wh))]) hx hb dX4_tellWalk_8 rfl hl (by decide) rfl (fun ls hl => ?_)
  refine lv_iconst (v := (nI 0)) hx hb dX4_tellWalk_9 (by decide) ?_
  refine lv_istore (lv' := [(4, .int (nI 0)), (3, .int (nI j)), (0, .ref (ad 0)), (1, .int (nI j)), (2, .int (nI wh))]) hx hb dX4_tellWalk_10 hl (by decide) rfl (fun ls hl => ?_)
  refine lv_iconst (v := 0) hx hb dX4_tellWalk_12 (by decide) ?_
  refine lv_istore (lv' := [(5, .int 0), (4, .int (nI 0)), (3, .int (nI j)), (0, .ref (ad 0)), (1, .int (nI j)), (2, .int (nI wh))]) hx hb dX4_tellWalk_13 hl (by decide) rfl (fun ls hl => ?_)
  have key15 : ∀ (n_ : Nat) (t : Nat) (su : Int32) (c_ : Nat → Nat → Int32) (H : Heap) (locs : List Loc) (ls : Array Slot), t ≤ 7 → 7 + 1 ≤ t + n_ → gi G c_ → kx [14, 15, 16, 17] c c_ → (∀ x, x ≤ t → gr_gw G j x < gr_n G) → su.toInt = gr_gs G j t → -(9 * (t : Int)) ≤ gr_gs G j t → gr_gs G j t ≤ 9 * (t : Int) → (∀ x y, x < t → y < t → gr_gw G j x = gr_gw G j y → x = y) → wp G j t c_ → va_P en.1 vwCl (xw en ad c_) H → va_S (xw_A ad s.heap.size) s.heap H locs → lv_has ls 7 [(0, .ref (ad 0)), (1, .int (nI j)), (2, .int (nI wh)), (3, .int (nI (gr_gw G j t))), (4, .int (nI t)), (5, .int su)] → W p l e (headSpec wsX4_tellWalk (rm_ 31 0 0)).room s m ([.ref (ad 0), .int (nI j), .int (nI wh)] : List Value).toArray below meth co H locs 0 0 (MQ below (va_Qi (fun r c' => gr_wr G j wh r ∧ kx [14, 15, 16, 17] c c') (fun c' t => va_P en.1 vwCl (xw en ad c') t.heap) (xw_A ad s.heap.size)) ([.ref (ad 0), .int (nI j), .int (nI wh)] : List Value).toArray s 0 0 (xw_A ad s.heap.size)) (F0 m 15 ls []) := by
    intro n_
    induction n_ with
    | zero =>
      intro t su c_ H locs ls ht_ hin hgc hkc hal hsu hs1 hs2 hd hwp hP hS hl
      exact absurd hin (by omega)
    | succ n_ ih15 =>
      intro t su c_ H locs ls ht_ hin hgc hkc hal hsu hs1 hs2 hd hwp hP hS hl
      have hvc : va G c_ := fun v hv => by rw [hkc 13 (by decide)]; exact hva v hv
      have hat := hal t (Nat.le_refl t)
      have hat7 : gr_gw G j t < 7 := by have := hg.n7; omega
      refine lv_iload hx hb dX4_tellWalk_15 (lv_at hl 4 rfl) ?_
      refine lv_bipush (v := (nI 7)) hx hb dX4_tellWalk_17 (by decide) ?_
      refine lv_icmp_ge (tgt := 82) hx hb dX4_tellWalk_19 (by decide) (fun b19 => ?_) (fun b19 => ?_)
      · skip
        have hin9 : t = 7 := by
          rcases Nat.lt_or_ge t 7 with q | q
          · exact absurd b19 (nI_ge q (by omega))
          · omega
        have hvis : ∃ a, a < t ∧ gr_gw G j a = gr_gw G j t ∧ c_ 16 (gr_gw G j t) = nI a ∧ (c_ 17 (gr_gw G j t)).toInt = gr_gs G j a := by
          rcases hwp _ hat7 with ⟨-, h2⟩ | q
          · subst hin9
            obtain ⟨a, h3, h4⟩ := gw_pigeon hg.n7 hd hal
            exact absurd h4 (h2 a h3)
          · exact q
        obtain ⟨a, ha1, ha2, ha3, ha4⟩ := hvis
        have hlp : gr_lp G j t a := ⟨ha1, ht_, ha2.symm, hd, hal⟩
        refine lv_iload_n hx hb dX4_tellWalk_82 rfl (lv_at hl 2 rfl) ?_
        rcases (show wh = 0 ∨ wh = 1 ∨ wh = 2 ∨ wh = 3 by omega) with rfl | rfl | rfl | rfl
        · skip
          refine lv_tableIn (tgt := 108) hx hb dX4_tellWalk_83 (by decide) (by decide) rfl (by decide) ?_
          refine lv_aload_n hx hb dX4_tellWalk_108 rfl (lv_at hl 0 rfl) ?_
          refine va_get (D := en.1) (ci := 4) (v := .ref (ad 4)) (C := RX4) (T := TX4) (N := 5) hx hb hts iw_X4_tellWalk_X4 hown hE.1 hP 0 rfl rfl 3 (by decide) (hts (.fieldLink RX4 37 "CreditGame" "walked" "LCreditGame$Path;") (by decide +kernel)) (fun _ h9 => h9) rfl dX4_tellWalk_109 ?_
          refine lv_iload_n hx hb dX4_tellWalk_112 rfl (lv_at hl 3 rfl) ?_
          refine ro_calli (va_runVN (As := [.int (nI (gr_gw G j t))]) (rest := []) ⟨hx, hb, hml, hown, hts⟩ (ct_stepsTo_w l en ad c_ (gr_gw G j t) hat7) ⟨va_cnB 1 hts gX4_tellWalk_X2_stepsTo_n183 rfl rfl rfl (hE.2 _ (List.mem_of_getElem? (i := 19) rfl)) (hts (.initialized RX2) (by decide +kernel)) (by decide +kernel) ⟨Nat.le_of_ble_eq_true rfl, Nat.le_of_ble_eq_true rfl⟩, hts (.instanceMethod yX2_stepsTo) (by decide +kernel), hts (.selects RX2 yX2_stepsTo yX2_stepsTo) (by decide +kernel)⟩ (ct_preV hE (va_recv hE.1 hP (ci := 2) (q0 := 4) rfl rfl) hP) rfl rfl hl.1 rfl (lv_room (Nat.le_of_ble_eq_true rfl)) dX4_tellWalk_113 ⟨Nat.le_of_ble_eq_true rfl, Nat.le_of_ble_eq_true rfl⟩) (fun r113 w113 => ?_)
          obtain rfl : r113 = (nI a) := (w113.trans ha3)
          exact W.iret (v := (nI a)) hx hb hr (fun t ht hW => ⟨⟨_, c_, rfl, ⟨⟨_, a, hlp, fun q => (by first | rfl | (exact absurd q (by decide))), fun q => (by first | rfl | (exact absurd q (by decide))), fun q => (by first | exact hs9 | (exact absurd q (by decide))), fun q => (by first | rfl | (exact absurd q (by decide)))⟩, hkc⟩, by show va_P _ _ _ t.heap; rw [ht]; exact hP⟩, hS.F ht⟩) hS.2.2 dX4_tellWalk_116
        · skip
          refine lv_tableIn (tgt := 117) hx hb dX4_tellWalk_83 (by decide) (by decide) rfl (by decide) ?_
          refine lv_iload hx hb dX4_tellWalk_117 (lv_at hl 4 rfl) ?_
          refine lv_aload_n hx hb dX4_tellWalk_119 rfl (lv_at hl 0 rfl) ?_
          refine va_get (D := en.1) (ci := 4) (v := .ref (ad 4)) (C := RX4) (T := TX4) (N := 5) hx hb hts iw_X4_tellWalk_X4 hown hE.1 hP 0 rfl rfl 3 (by decide) (hts (.fieldLink RX4 37 "CreditGame" "walked" "LCreditGame$Path;") (by decide +kernel)) (fun _ h9 => h9) rfl dX4_tellWalk_120 ?_
          refine lv_iload_n hx hb dX4_tellWalk_123 rfl (lv_at hl 3 rfl) ?_
          refine ro_calli (va_runVN (As := [.int (nI (gr_gw G j t))]) (rest := [.int (nI t)]) ⟨hx, hb, hml, hown, hts⟩ (ct_stepsTo_w l en ad c_ (gr_gw G j t) hat7) ⟨va_cnB 1 hts gX4_tellWalk_X2_stepsTo_n183 rfl rfl rfl (hE.2 _ (List.mem_of_getElem? (i := 19) rfl)) (hts (.initialized RX2) (by decide +kernel)) (by decide +kernel) ⟨Nat.le_of_ble_eq_true rfl, Nat.le_of_ble_eq_true rfl⟩, hts (.instanceMethod yX2_stepsTo) (by decide +kernel), hts (.selects RX2 yX2_stepsTo yX2_stepsTo) (by decide +kernel)⟩ (ct_preV hE (va_recv hE.1 hP (ci := 2) (q0 := 4) rfl rfl) hP) rfl rfl hl.1 rfl (lv_room (Nat.le_of_ble_eq_true rfl)) dX4_tellWalk_124 ⟨Nat.le_of_ble_eq_true rfl, Nat.le_of_ble_eq_true rfl⟩) (fun r124 w124 => ?_)
          obtain rfl : r124 = (nI a) := (w124.trans ha3)
          refine lv_isub hx hb dX4_tellWalk_127 ?_
          refine lv_topi (fun z_127 ez_127 => ?_)
          obtain rfl : z_127 = (nI (t - a)) := (ez_127.trans (pk_sub (by omega)))
          exact W.iret (v := (nI (t - a))) hx hb hr (fun t ht hW => ⟨⟨_, c_, rfl, ⟨⟨_, a, hlp, fun q => (by first | rfl | (exact absurd q (by decide))), fun q => (by first | rfl | (exact absurd q (by decide))), fun q => (by first | exact hs9 | (exact absurd q (by decide))), fun q => (by first | rfl | (exact absurd q (by decide)))⟩, hkc⟩, by show va_P _ _ _ t.heap; rw [ht]; exact hP⟩, hS.F ht⟩) hS.2.2 dX4_tellWalk_128
        · skip
          refine lv_tableIn (tgt := 129) hx hb dX4_tellWalk_83 (by decide) (by decide) rfl (by decide) ?_
          refine lv_iload hx hb dX4_tellWalk_129 (lv_at hl 5 rfl) ?_
          refine lv_aload_n hx hb dX4_tellWalk_131 rfl (lv_at hl 0 rfl) ?_
          refine va_get (D := en.1) (ci := 4) (v := .ref (ad 4)) (C := RX4) (T := TX4) (N := 5) hx hb hts iw_X4_tellWalk_X4 hown hE.1 hP 0 rfl rfl 3 (by decide) (hts (.fieldLink RX4 37 "CreditGame" "walked" "LCreditGame$Path;") (by decide +kernel)) (fun _ h9 => h9) rfl dX4_tellWalk_132 ?_
          refine lv_iload_n hx hb dX4_tellWalk_135 rfl (lv_at hl 3 rfl) ?_
          refine ro_calli (va_runVN (As := [.int (nI (gr_gw G j t))]) (rest := [.int su]) ⟨hx, hb, hml, hown, hts⟩ (ct_sumTo_w l en ad c_ (gr_gw G j t) hat7) ⟨va_cnB 1 hts gX4_tellWalk_X2_sumTo_n186 rfl rfl rfl (hE.2 _ (List.mem_of_getElem? (i := 20) rfl)) (hts (.initialized RX2) (by decide +kernel)) (by decide +kernel) ⟨Nat.le_of_ble_eq_true rfl, Nat.le_of_ble_eq_true rfl⟩, hts (.instanceMethod yX2_sumTo) (by decide +kernel), hts (.selects RX2 yX2_sumTo yX2_sumTo) (by decide +kernel)⟩ (ct_preV hE (va_recv hE.1 hP (ci := 2) (q0 := 4) rfl rfl) hP) rfl rfl hl.1 rfl (lv_room (Nat.le_of_ble_eq_true rfl)) dX4_tellWalk_136 ⟨Nat.le_of_ble_eq_true rfl, Nat.le_of_ble_eq_true rfl⟩) (fun r136 w136 => ?_)
          refine lv_isub hx hb dX4_tellWalk_139 ?_
          refine lv_topi (fun s9 es9 => ?_)
          have hga : -(9 * (a : Int)) ≤ gr_gs G j a ∧ gr_gs G j a ≤ 9 * (a : Int) := gs_bd hg.ok hbm a (fun x hx9 => hal x (by omega))
          have hs9 : s9.toInt = gr_gs G j t - gr_gs G j a := by
            rw [es9, w136, i_sub (by rw [hsu, ha4]; omega) (by rw [hsu, ha4]; omega), hsu, ha4]
          exact W.iret (v := s9) hx hb hr (fun t ht hW => ⟨⟨_, c_, rfl, ⟨⟨_, a, hlp, fun q => (by first | rfl | (exact absurd q (by decide))), fun q => (by first | rfl | (exact absurd q (by decide))), fun q => (by first | exact hs9 | (exact absurd q (by decide))), fun q => (by first | rfl | (exact absurd q (by decide)))⟩, hkc⟩, by show va_P _ _ _ t.heap; rw [ht]; exact hP⟩, hS.F ht⟩) hS.2.2 dX4_tellWalk_140
        · skip
          refine lv_tableOut (tgt := 141) hx hb dX4_tellWalk_83 (by decide) (by decide) ?_
          refine lv_iload_n hx hb dX4_tellWalk_141 rfl (lv_at hl 3 rfl) ?_
          exact W.iret (v := (nI (gr_gw G j t))) hx hb hr (fun t ht hW => ⟨⟨_, c_, rfl, ⟨⟨_, a, hlp, fun q => (by first | rfl | (exact absurd q (by decide))), fun q => (by first | rfl | (exact absurd q (by decide))), fun q => (by first | exact hs9 | (exact absurd q (by decide))), fun q => (by first | rfl | (exact absurd q (by decide)))⟩, hkc⟩, by show va_P _ _ _ t.heap; rw [ht]; exact hP⟩, hS.F ht⟩) hS.2.2 dX4_tellWalk_142
      · skip
        have hlt : t < 7 := by
          rcases Nat.lt_or_ge t 7 with q | q
          · exact q
          · exact absurd (nI_le q (by omega)) b19
        refine lv_aload_n hx hb dX4_tellWalk_22 rfl (lv_at hl 0 rfl) ?_
        refine va_get (D := en.1) (ci := 4) (v := .ref (ad 4)) (C := RX4) (T := TX4) (N := 5) hx hb hts iw_X4_tellWalk_X4 hown hE.1 hP 0 rfl rfl 3 (by decide) (hts (.fieldLink RX4 37 "CreditGame" "walked" "LCreditGame$Path;") (by decide +kernel)) (fun _ h9 => h9) rfl dX4_tellWalk_23 ?_
        refine lv_iload_n hx hb dX4_tellWalk_26 rfl (lv_at hl 3 rfl) ?_
        refine ro_calli (va_runVN (As := [.int (nI (gr_gw G j t))]) (rest := []) ⟨hx, hb, hml, hown, hts⟩ (ct_has_w l en ad c_ (gr_gw G j t) hat7) ⟨va_cnB 1 hts gX4_tellWalk_X2_has_n171 rfl rfl rfl (hE.2 _ (List.mem_of_getElem? (i := 14) rfl)) (hts (.initialized RX2) (by decide +kernel)) (by decide +kernel) ⟨Nat.le_of_ble_eq_true rfl, Nat.le_of_ble_eq_true rfl⟩, hts (.instanceMethod yX2_has) (by decide +kernel), hts (.selects RX2 yX2_has yX2_has) (by decide +kernel)⟩ (ct_preV hE (va_recv hE.1 hP (ci := 2) (q0 := 4) rfl rfl) hP) rfl rfl hl.1 rfl (lv_room (Nat.le_of_ble_eq_true rfl)) dX4_tellWalk_27 ⟨Nat.le_of_ble_eq_true rfl, Nat.le_of_ble_eq_true rfl⟩) (fun r27 w27 => ?_)
        refine lv_if_ne (tgt := 82) hx hb dX4_tellWalk_30 (by decide) (fun b30 => ?_) (fun b30 => ?_)
        · skip
          have hvis : ∃ a, a < t ∧ gr_gw G j a = gr_gw G j t ∧ c_ 16 (gr_gw G j t) = nI a ∧ (c_ 17 (gr_gw G j t)).toInt = gr_gs G j a := by
            rcases hwp _ hat7 with ⟨h1, -⟩ | q
            · exact absurd (w27.trans (if_pos h1)) b30
            · exact q
          obtain ⟨a, ha1, ha2, ha3, ha4⟩ := hvis
          have hlp : gr_lp G j t a := ⟨ha1, ht_, ha2.symm, hd, hal⟩
          refine lv_iload_n hx hb dX4_tellWalk_82 rfl (lv_at hl 2 rfl) ?_
          rcases (show wh = 0 ∨ wh = 1 ∨ wh = 2 ∨ wh = 3 by omega) with rfl | rfl | rfl | rfl
          · skip
            refine lv_tableIn (tgt := 108) hx hb dX4_tellWalk_83 (by decide) (by decide) rfl (by decide) ?_
            refine lv_aload_n hx hb dX4_tellWalk_108 rfl (lv_at hl 0 rfl) ?_
            refine va_get (D := en.1) (ci := 4) (v := .ref (ad 4)) (C := RX4) (T := TX4) (N := 5) hx hb hts iw_X4_tellWalk_X4 hown hE.1 hP 0 rfl rfl 3 (by decide) (hts (.fieldLink RX4 37 "CreditGame" "walked" "LCreditGame$Path;") (by decide +kernel)) (fun _ h9 => h9) rfl dX4_tellWalk_109 ?_
            refine lv_iload_n hx hb dX4_tellWalk_112 rfl (lv_at hl 3 rfl) ?_
            refine ro_calli (va_runVN (As := [.int (nI (gr_gw G j t))]) (rest := []) ⟨hx, hb, hml, hown, hts⟩ (ct_stepsTo_w l en ad c_ (gr_gw G j t) hat7) ⟨va_cnB 1 hts gX4_tellWalk_X2_stepsTo_n183 rfl rfl rfl (hE.2 _ (List.mem_of_getElem? (i := 19) rfl)) (hts (.initialized RX2) (by decide +kernel)) (by decide +kernel) ⟨Nat.le_of_ble_eq_true rfl, Nat.le_of_ble_eq_true rfl⟩, hts (.instanceMethod yX2_stepsTo) (by decide +kernel), hts (.selects RX2 yX2_stepsTo yX2_stepsTo) (by decide +kernel)⟩ (ct_preV hE (va_recv hE.1 hP (ci := 2) (q0 := 4) rfl rfl) hP) rfl rfl hl.1 rfl (lv_room (Nat.le_of_ble_eq_true rfl)) dX4_tellWalk_113 ⟨Nat.le_of_ble_eq_true rfl, Nat.le_of_ble_eq_true rfl⟩) (fun r113 w113 => ?_)
            obtain rfl : r113 = (nI a) := (w113.trans ha3)
            exact W.iret (v := (nI a)) hx hb hr (fun t ht hW => ⟨⟨_, c_, rfl, ⟨⟨_, a, hlp, fun q => (by first | rfl | (exact absurd q (by decide))), fun q => (by first | rfl | (exact absurd q (by decide))), fun q => (by first | exact hs9 | (exact absurd q (by decide))), fun q => (by first | rfl | (exact absurd q (by decide)))⟩, hkc⟩, by show va_P _ _ _ t.heap; rw [ht]; exact hP⟩, hS.F ht⟩) hS.2.2 dX4_tellWalk_116
          · skip
            refine lv_tableIn (tgt := 117) hx hb dX4_tellWalk_83 (by decide) (by decide) rfl (by decide) ?_
            refine lv_iload hx hb dX4_tellWalk_117 (lv_at hl 4 rfl) ?_
            refine lv_aload_n hx hb dX4_tellWalk_119 rfl (lv_at hl 0 rfl) ?_
            refine va_get (D := en.1) (ci := 4) (v := .ref (ad 4)) (C := RX4) (T := TX4) (N := 5) hx hb hts iw_X4_tellWalk_X4 hown hE.1 hP 0 rfl rfl 3 (by decide) (hts (.fieldLink RX4 37 "CreditGame" "walked" "LCreditGame$Path;") (by decide +kernel)) (fun _ h9 => h9) rfl dX4_tellWalk_120 ?_
            refine lv_iload_n hx hb dX4_tellWalk_123 rfl (lv_at hl 3 rfl) ?_
            refine ro_calli (va_runVN (As := [.int (nI (gr_gw G j t))]) (rest := [.int (nI t)]) ⟨hx, hb, hml, hown, hts⟩ (ct_stepsTo_w l en ad c_ (gr_gw G j t) hat7) ⟨va_cnB 1 hts gX4_tellWalk_X2_stepsTo_n183 rfl rfl rfl (hE.2 _ (List.mem_of_getElem? (i := 19) rfl)) (hts (.initialized RX2) (by decide +kernel)) (by decide +kernel) ⟨Nat.le_of_ble_eq_true rfl, Nat.le_of_ble_eq_true rfl⟩, hts (.instanceMethod yX2_stepsTo) (by decide +kernel), hts (.selects RX2 yX2_stepsTo yX2_stepsTo) (by decide +kernel)⟩ (ct_preV hE (va_recv hE.1 hP (ci := 2) (q0 := 4) rfl rfl) hP) rfl rfl hl.1 rfl (lv_room (Nat.le_of_ble_eq_true rfl)) dX4_tellWalk_124 ⟨Nat.le_of_ble_eq_true rfl, Nat.le_of_ble_eq_true rfl⟩) (fun r124 w124 => ?_)
            obtain rfl : r124 = (nI a) := (w124.trans ha3)
            refine lv_isub hx hb dX4_tellWalk_127 ?_
            refine lv_topi (fun z_127 ez_127 => ?_)
            obtain rfl : z_127 = (nI (t - a)) := (ez_127.trans (pk_sub (by omega)))
            exact W.iret (v := (nI (t - a))) hx hb hr (fun t ht hW => ⟨⟨_, c_, rfl, ⟨⟨_, a, hlp, fun q => (by first | rfl | (exact absurd q (by decide))), fun q => (by first | rfl | (exact absurd q (by decide))), fun q => (by first | exact hs9 | (exact absurd q (by decide))), fun q => (by first | rfl | (exact absurd q (by decide)))⟩, hkc⟩, by show va_P _ _ _ t.heap; rw [ht]; exact hP⟩, hS.F ht⟩) hS.2.2 dX4_tellWalk_128
          · skip
            refine lv_tableIn (tgt := 129) hx hb dX4_tellWalk_83 (by decide) (by decide) rfl (by decide) ?_
            refine lv_iload hx hb dX4_tellWalk_129 (lv_at hl 5 rfl) ?_
            refine lv_aload_n hx hb dX4_tellWalk_131 rfl (lv_at hl 0 rfl) ?_
            refine va_get (D := en.1) (ci := 4) (v := .ref (ad 4)) (C := RX4) (T := TX4) (N := 5) hx hb hts iw_X4_tellWalk_X4 hown hE.1 hP 0 rfl rfl 3 (by decide) (hts (.fieldLink RX4 37 "CreditGame" "walked" "LCreditGame$Path;") (by decide +kernel)) (fun _ h9 => h9) rfl dX4_tellWalk_132 ?_
            refine lv_iload_n hx hb dX4_tellWalk_135 rfl (lv_at hl 3 rfl) ?_
            refine ro_calli (va_runVN (As := [.int (nI (gr_gw G j t))]) (rest := [.int su]) ⟨hx, hb, hml, hown, hts⟩ (ct_sumTo_w l en ad c_ (gr_gw G j t) hat7) ⟨va_cnB 1 hts gX4_tellWalk_X2_sumTo_n186 rfl rfl rfl (hE.2 _ (List.mem_of_getElem? (i := 20) rfl)) (hts (.initialized RX2) (by decide +kernel)) (by decide +kernel) ⟨Nat.le_of_ble_eq_true rfl, Nat.le_of_ble_eq_true rfl⟩, hts (.instanceMethod yX2_sumTo) (by decide +kernel), hts (.selects RX2 yX2_sumTo yX2_sumTo) (by decide +kernel)⟩ (ct_preV hE (va_recv hE.1 hP (ci := 2) (q0 := 4) rfl rfl) hP) rfl rfl hl.1 rfl (lv_room (Nat.le_of_ble_eq_true rfl)) dX4_tellWalk_136 ⟨Nat.le_of_ble_eq_true rfl, Nat.le_of_ble_eq_true rfl⟩) (fun r136 w136 => ?_)
            refine lv_isub hx hb dX4_tellWalk_139 ?_
            refine lv_topi (fun s9 es9 => ?_)
            have hga : -(9 * (a : Int)) ≤ gr_gs G j a ∧ gr_gs G j a ≤ 9 * (a : Int) := gs_bd hg.ok hbm a (fun x hx9 => hal x (by omega))
            have hs9 : s9.toInt = gr_gs G j t - gr_gs G j a := by
              rw [es9, w136, i_sub (by rw [hsu, ha4]; omega) (by rw [hsu, ha4]; omega), hsu, ha4]
            exact W.iret (v := s9) hx hb hr (fun t ht hW => ⟨⟨_, c_, rfl, ⟨⟨_, a, hlp, fun q => (by first | rfl | (exact absurd q (by decide))), fun q => (by first | rfl | (exact absurd q (by decide))), fun q => (by first | exact hs9 | (exact absurd q (by decide))), fun q => (by first | rfl | (exact absurd q (by decide)))⟩, hkc⟩, by show va_P _ _ _ t.heap; rw [ht]; exact hP⟩, hS.F ht⟩) hS.2.2 dX4_tellWalk_140
          · skip
            refine lv_tableOut (tgt := 141) hx hb dX4_tellWalk_83 (by decide) (by decide) ?_
            refine lv_iload_n hx hb dX4_tellWalk_141 rfl (lv_at hl 3 rfl) ?_
            exact W.iret (v := (nI (gr_gw G j t))) hx hb hr (fun t ht hW => ⟨⟨_, c_, rfl, ⟨⟨_, a, hlp, fun q => (by first | rfl | (exact absurd q (by decide))), fun q => (by first | rfl | (exact absurd q (by decide))), fun q => (by first | exact hs9 | (exact absurd q (by decide))), fun q => (by first | rfl | (exact absurd q (by decide)))⟩, hkc⟩, by show va_P _ _ _ t.heap; rw [ht]; exact hP⟩, hS.F ht⟩) hS.2.2 dX4_tellWalk_142
        · skip
          have hnew : ∀ a, a < t → gr_gw G j a ≠ gr_gw G j t := by
            rcases hwp _ hat7 with ⟨-, h2⟩ | ⟨a, h1, -, h3, -⟩
            · exact h2
            · exfalso
              rw [w27, if_neg (by rw [h3]; exact nI_ne1 (by omega))] at b30
              exact absurd b30 (by decide)
          refine lv_aload_n hx hb dX4_tellWalk_33 rfl (lv_at hl 0 rfl) ?_
          refine va_get (D := en.1) (ci := 4) (v := .ref (ad 4)) (C := RX4) (T := TX4) (N := 5) hx hb hts iw_X4_tellWalk_X4 hown hE.1 hP 0 rfl rfl 3 (by decide) (hts (.fieldLink RX4 37 "CreditGame" "walked" "LCreditGame$Path;") (by decide +kernel)) (fun _ h9 => h9) rfl dX4_tellWalk_34 ?_
          refine lv_iload_n hx hb dX4_tellWalk_37 rfl (lv_at hl 3 rfl) ?_
          refine lv_iload hx hb dX4_tellWalk_38 (lv_at hl 4 rfl) ?_
          refine lv_iload hx hb dX4_tellWalk_40 (lv_at hl 5 rfl) ?_
          refine xr_callv (va_runVN (As := [.int (nI (gr_gw G j t)), .int (nI t), .int su]) (rest := []) ⟨hx, hb, hml, hown, hts⟩ (ct_enter_w l en ad c_ hI _ (gr_gw G j t) hat7 (nI t) su) ⟨va_cnB 3 hts gX4_tellWalk_X2_enter_n174 rfl rfl rfl (hE.2 _ (List.mem_of_getElem? (i := 15) rfl)) (hts (.initialized RX2) (by decide +kernel)) (by decide +kernel) ⟨Nat.le_of_ble_eq_true rfl, Nat.le_of_ble_eq_true rfl⟩, hts (.instanceMethod yX2_enter) (by decide +kernel), hts (.selects RX2 yX2_enter yX2_enter) (by decide +kernel)⟩ (ct_preV hE (va_recv hE.1 hP (ci := 2) (q0 := 4) rfl rfl) ⟨rfl, hP⟩) rfl rfl hl.1 rfl (lv_room (Nat.le_of_ble_eq_true rfl)) dX4_tellWalk_42 ⟨Nat.le_of_ble_eq_true rfl, Nat.le_of_ble_eq_true rfl⟩) hS (fun c42 H locs w42 hP hS => ?_)
          have hg2 : gi G c42 := by rw [w42]; exact (hgc.up (by omega)).up (by omega)
          have hk42 : kx [14, 15, 16, 17] c_ c42 := by rw [w42]; exact (kx.up (by decide)).tr (kx.up (by decide))
          have hv2 : va G c42 := fun v hv => by rw [hk42 13 (by decide)]; exact hvc v hv
          have hw1 : wp G j (t + 1) c42 := wp_next hwp hnew hsu (by rw [w42]; rfl) (by rw [w42]; rfl)
          refine lv_aload_n hx hb dX4_tellWalk_45 rfl (lv_at hl 0 rfl) ?_
          refine lv_iload_n hx hb dX4_tellWalk_46 rfl (lv_at hl 3 rfl) ?_
          refine xr_calli (va_runV (As := [.int (nI (gr_gw G j t))]) (rest := []) ⟨hx, hb, hml, hown, hts⟩ (ct_bestEdge l en ad c42 hI _ hg2 hc hv2 (gr_gw G j t) hat) (cwV 1 hts gX4_tellWalk_X4_bestEdge rfl rfl rfl (by decide +kernel) ⟨Nat.le_of_ble_eq_true rfl, Nat.le_of_ble_eq_true rfl⟩) (ct_preV hE (va_recv hE.1 hP (ci := 4) (q0 := 0) rfl rfl) ⟨rfl, hP⟩) rfl rfl hl.1 rfl (lv_room (Nat.le_of_ble_eq_true rfl)) dX4_tellWalk_47 ⟨Nat.le_of_ble_eq_true rfl, Nat.le_of_ble_eq_true rfl⟩) hS (fun r47 c47 H locs w47 hP hS => ?_)
          obtain rfl : r47 = (nI (gr_best G (gr_gw G j t))) := w47.1
          have hg3 := hg2.kx w47.2.2 (by decide)
          have hxE := (gr_adj_mem hg.ok hat w47.2.1).1
          have hx24 : gr_best G (gr_gw G j t) < 24 := by have := hg.e24; omega
          have hw2 : wp G j (t + 1) c47 := fun u hu => by rw [w47.2.2 16 (by decide), w47.2.2 17 (by decide)]; exact hw1 u hu
          refine lv_istore (lv' := [(6, .int (nI (gr_best G (gr_gw G j t)))), (0, .ref (ad 0)), (1, .int (nI j)), (2, .int (nI wh)), (3, .int (nI (gr_gw G j t))), (4, .int (nI t)), (5, .int su)]) hx hb dX4_tellWalk_50 hl (by decide) rfl (fun ls hl => ?_)
          refine lv_iload hx hb dX4_tellWalk_52 (lv_at hl 6 rfl) ?_
          refine lv_aload_n hx hb dX4_tellWalk_54 rfl (lv_at hl 1 rfl) ?_
          refine va_get (D := en.1) (ci := 4) (v := .ref (ad 1)) (C := RX4) (T := TX4) (N := 5) hx hb hts iw_X4_tellWalk_X4 hown hE.1 hP 0 rfl rfl 0 (by decide) (hts (.fieldLink RX4 10 "CreditGame" "graph" "LCreditGame$Graph;") (by decide +kernel)) (fun _ h9 => h9) rfl dX4_tellWalk_55 ?_
          refine lv_iload hx hb dX4_tellWalk_58 (lv_at hl 0 rfl) ?_
          refine ro_calli (va_runVN (As := [.int (nI (gr_best G (gr_gw G j t)))]) (rest := [.int su]) ⟨hx, hb, hml, hown, hts⟩ (ct_weightOf l en ad c47 hg3 _ hx24) ⟨va_cnB 1 hts gX4_tellWalk_X1_weightOf_n177 rfl rfl rfl (hE.2 _ (List.mem_of_getElem? (i := 16) rfl)) (hts (.initialized RX1) (by decide +kernel)) (by decide +kernel) ⟨Nat.le_of_ble_eq_true rfl, Nat.le_of_ble_eq_true rfl⟩, hts (.instanceMethod yX1_weightOf) (by decide +kernel), hts (.selects RX1 yX1_weightOf yX1_weightOf) (by decide +kernel)⟩ (ct_preV hE (va_recv hE.1 hP (ci := 1) (q0 := 1) rfl rfl) hP) rfl rfl hl.1 rfl (lv_room (Nat.le_of_ble_eq_true rfl)) dX4_tellWalk_60 ⟨Nat.le_of_ble_eq_true rfl, Nat.le_of_ble_eq_true rfl⟩) (fun r60 w60 => ?_)
          obtain rfl : r60 = (gr_wt G (gr_best G (gr_gw G j t))) := w60
          refine lv_iadd hx hb dX4_tellWalk_63 ?_
          refine lv_topi (fun s1 es1 => ?_)
          have hw9 := (hg.ok.ed _ hxE).2.2
          have hs1i : s1.toInt = gr_gs G j t + gr_w G (gr_best G (gr_gw G j t)) := by
            rw [es1, gr_w_eq hxE, i_add (by rw [hsu]; omega) (by rw [hsu]; omega), hsu]
          rw [← gr_w_eq hxE] at hw9
          refine lv_istore (lv' := [(5, .int s1), (6, .int (nI (gr_best G (gr_gw G j t)))), (0, .ref (ad 0)), (1, .int (nI j)), (2, .int (nI wh)), (3, .int (nI (gr_gw G j t))), (4, .int (nI t))]) hx hb dX4_tellWalk_64 hl (by decide) rfl (fun ls hl => ?_)
          refine lv_aload_n hx hb dX4_tellWalk_66 rfl (lv_at hl 2 rfl) ?_
          refine va_get (D := en.1) (ci := 4) (v := .ref (ad 1)) (C := RX4) (T := TX4) (N := 5) hx hb hts iw_X4_tellWalk_X4 hown hE.1 hP 0 rfl rfl 0 (by decide) (hts (.fieldLink RX4 10 "CreditGame" "graph" "LCreditGame$Graph;") (by decide +kernel)) (fun _ h9 => h9) rfl dX4_tellWalk_67 ?_
          refine lv_iload hx hb dX4_tellWalk_70 (lv_at hl 1 rfl) ?_
          refine ro_calli (va_runVN (As := [.int (nI (gr_best G (gr_gw G j t)))]) (rest := []) ⟨hx, hb, hml, hown, hts⟩ (ct_targetOf l en ad c47 hg3 _ hx24) ⟨va_cnB 1 hts gX4_tellWalk_X1_targetOf_n180 rfl rfl rfl (hE.2 _ (List.mem_of_getElem? (i := 18) rfl)) (hts (.initialized RX1) (by decide +kernel)) (by decide +kernel) ⟨Nat.le_of_ble_eq_true rfl, Nat.le_of_ble_eq_true rfl⟩, hts (.instanceMethod yX1_targetOf) (by decide +kernel), hts (.selects RX1 yX1_targetOf yX1_targetOf) (by decide +kernel)⟩ (ct_preV hE (va_recv hE.1 hP (ci := 1) (q0 := 1) rfl rfl) hP) rfl rfl hl.1 rfl (lv_room (Nat.le_of_ble_eq_true rfl)) dX4_tellWalk_72 ⟨Nat.le_of_ble_eq_true rfl, Nat.le_of_ble_eq_true rfl⟩) (fun r72 w72 => ?_)
          obtain rfl : r72 = (nI (gr_gw G j (t + 1))) := (w72.trans (gr_tgt_lt hg.ok hxE).2)
          refine lv_istore_n (lv' := [(3, .int (nI (gr_gw G j (t + 1)))), (5, .int s1), (6, .int (nI (gr_best G (gr_gw G j t)))), (0, .ref (ad 0)), (1, .int (nI j)), (2, .int (nI wh)), (4, .int (nI t))]) hx hb dX4_tellWalk_75 rfl hl (by decide) rfl (fun ls hl => ?_)
          refine lv_iinc (v := (nI (t + 1))) (lv' := [(4, .int (nI (t + 1))), (3, .int (nI (gr_gw G j (t + 1)))), (5, .int s1), (6, .int (nI (gr_best G (gr_gw G j t)))), (0, .ref (ad 0)), (1, .int (nI j)), (2, .int (nI wh))]) hx hb dX4_tellWalk_76 hl (k := 6) rfl (nI_1 _) (by decide) rfl (fun ls hl => ?_)
          refine lv_goto (tgt := 15) hx hb dX4_tellWalk_79 (by decide) ?_
          exact ih15 (t + 1) s1 c47 _ _ _ (by omega) (by omega) hg3 (by exact (hkc.tr hk42).tr (w47.2.2.wide (by decide))) (fun x hx9 => by by_cases e9 : x = t + 1; rw [e9]; exact (gr_tgt_lt hg.ok hxE).1; exact hal x (by omega)) hs1i (by show _ ≤ gr_gs G j t + gr_w G (gr_best G (gr_gw G j t)); omega) (by show gr_gs G j t + gr_w G (gr_best G (gr_gw G j t)) ≤ _; omega) (fun x y hx9 hy9 q => by by_cases ex : x = t; by_cases ey : y = t; omega; exact absurd (ex ▸ q).symm (hnew y (by omega)); by_cases ey : y = t; exact absurd (ey ▸ q) (hnew x (by omega)); exact hd x y (by omega) (by omega) q) hw2 hP hS (lv_sub hl [4, 5, 6, 1, 0, 2] rfl)
  exact key15 (7 + 1) 0 0 c4 _ _ _ (by omega) (by omega) hg1 (by rw [e4]; exact kx.up (by decide)) (fun x hx9 => by rw [show x = 0 by omega]; exact hj) i_0 (by show _ ≤ (0 : Int); omega) (by show (0 : Int) ≤ _; omega) (fun x y h => absurd h (Nat.not_lt_zero x)) (fun u hu => Or.inl ⟨by rw [e4]; exact hf4 u hu, fun a h => absurd h (Nat.not_lt_zero a)⟩) hP hS (lv_sub hl [3, 4, 5, 2, 1, 0] rfl)
