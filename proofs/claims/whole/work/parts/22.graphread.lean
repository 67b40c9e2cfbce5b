/-! ===== CreditGame$Graph: the methods that read ===== -/
theorem iw_X1_hasVertex_X1 : ∀ w ∈ wsX10, w ∈ wsX1_hasVertex := by decide +kernel
set_option maxHeartbeats 4000000 in
set_option maxRecDepth 100000 in
/-- is it a vertex -/
theorem ct_hasVertex (l : Launch) (en : en_T) (ad : Nat → Nat) (c : Nat → Nat → Int32) {G : gr_T} (hg : gi G c) (v : Int32) : Met l yX1_hasVertex wsX1_hasVertex (rm_ 1 0 0) (ct_Pc en [.ref (ad 1), .int v] (fun H => va_P en.1 vwCl (xw en ad c) H)) (ro_Qi (fun r => hv_P (gr_n G) v r)) 0 0 (fun _ => False) := by
  refine Met.ofW (cc := cX1_hasVertex) (maxL := 2) (ret := (some .boolean)) (by decide) rfl ?_
  intro p e s m args below meth co s₁ B hml hv
  obtain ⟨rfl, hE, hP⟩ := hv
  have hx := B.exec
  have hb := B.bytes
  have hr := B.returns
  have hts := atoms_spec (ws := wsX1_hasVertex) B.pre
  have hown : s.vm.findClass RX1 = some m.cls := findClass_of_methodNamed B.named
  have hlocks := B.notSynchronized
  have hl := lv_entry ([.ref (ad 1), .int v]) (n := 2) (Nat.le_of_ble_eq_true rfl)
  rw [lg_entry_eq]
  generalize (lg_sl ([.ref (ad 1), .int v]) ++ List.replicate (2 - (lg_sl ([.ref (ad 1), .int v])).length) Slot.unset).toArray = ls at hl ⊢
  have hl : lv_has ls 2 [(0, .ref (ad 1)), (1, .int v)] := hl
  refine lv_iload_n hx hb dX1_hasVertex_0 rfl (lv_at hl 1 rfl) ?_
  refine lv_if_lt (tgt := 22) hx hb dX1_hasVertex_1 (by decide) (fun b1 => ?_) (fun b1 => ?_)
  · skip
    refine lv_iconst (v := 0) hx hb dX1_hasVertex_22 (by decide) ?_
    exact W.zret (v := 0) (ty := .boolean) hx hb hr rfl (fun t ht hW => ⟨_, rfl, (by first | exact hv_neg hg.n7 b1 | exact hv_ge hg.n7 hg.vc b9 | exact hv_7 hg.n7 b15), ht⟩) (fun q h => by cases h) dX1_hasVertex_23
  · skip
    refine lv_iload_n hx hb dX1_hasVertex_4 rfl (lv_at hl 1 rfl) ?_
    refine lv_aload_n hx hb dX1_hasVertex_5 rfl (lv_at hl 0 rfl) ?_
    refine va_get (D := en.1) (ci := 1) (v := .int (c 1 0)) (C := RX1) (T := TX1) (N := 9) hx hb hts iw_X1_hasVertex_X1 hown hE.1 hP 1 rfl rfl 7 (by decide) (hts (.fieldLink RX1 35 "CreditGame$Graph" "vertexCount" "I") (by decide +kernel)) (fun _ h9 => h9) rfl dX1_hasVertex_6 ?_
    refine lv_icmp_ge (tgt := 22) hx hb dX1_hasVertex_9 (by decide) (fun b9 => ?_) (fun b9 => ?_)
    · skip
      refine lv_iconst (v := 0) hx hb dX1_hasVertex_22 (by decide) ?_
      exact W.zret (v := 0) (ty := .boolean) hx hb hr rfl (fun t ht hW => ⟨_, rfl, (by first | exact hv_neg hg.n7 b1 | exact hv_ge hg.n7 hg.vc b9 | exact hv_7 hg.n7 b15), ht⟩) (fun q h => by cases h) dX1_hasVertex_23
    · skip
      refine lv_iload_n hx hb dX1_hasVertex_12 rfl (lv_at hl 1 rfl) ?_
      refine lv_bipush (v := 7) hx hb dX1_hasVertex_13 (by decide) ?_
      refine lv_icmp_ge (tgt := 22) hx hb dX1_hasVertex_15 (by decide) (fun b15 => ?_) (fun b15 => ?_)
      · skip
        refine lv_iconst (v := 0) hx hb dX1_hasVertex_22 (by decide) ?_
        exact W.zret (v := 0) (ty := .boolean) hx hb hr rfl (fun t ht hW => ⟨_, rfl, (by first | exact hv_neg hg.n7 b1 | exact hv_ge hg.n7 hg.vc b9 | exact hv_7 hg.n7 b15), ht⟩) (fun q h => by cases h) dX1_hasVertex_23
      · skip
        refine lv_iconst (v := 1) hx hb dX1_hasVertex_18 (by decide) ?_
        refine lv_goto (tgt := 23) hx hb dX1_hasVertex_19 (by decide) ?_
        exact W.zret (v := 1) (ty := .boolean) hx hb hr rfl (fun t ht hW => ⟨_, rfl, (hv_ok hg.n7 hg.vc b1 b9), ht⟩) (fun q h => by cases h) dX1_hasVertex_23
theorem iw_X1_isFrom_X1 : ∀ w ∈ wsX10, w ∈ wsX1_isFrom := by decide +kernel
set_option maxHeartbeats 4000000 in
set_option maxRecDepth 100000 in
/-- is it an edge from the vertex -/
theorem ct_isFrom (l : Launch) (en : en_T) (ad : Nat → Nat) (c : Nat → Nat → Int32) {G : gr_T} (hg : gi G c) (x v : Int32) : Met l yX1_isFrom wsX1_isFrom (rm_ 1 0 0) (ct_Pc en [.ref (ad 1), .int x, .int v] (fun H => va_P en.1 vwCl (xw en ad c) H)) (ro_Qi (fun r => hf_P (gr_src G) (gr_E G) x v r)) 0 0 (fun _ => False) := by
  refine Met.ofW (cc := cX1_isFrom) (maxL := 3) (ret := (some .boolean)) (by decide) rfl ?_
  intro p e s m args below meth co s₁ B hml hv
  obtain ⟨rfl, hE, hP⟩ := hv
  have hx := B.exec
  have hb := B.bytes
  have hr := B.returns
  have hts := atoms_spec (ws := wsX1_isFrom) B.pre
  have hown : s.vm.findClass RX1 = some m.cls := findClass_of_methodNamed B.named
  have hlocks := B.notSynchronized
  have hl := lv_entry ([.ref (ad 1), .int x, .int v]) (n := 3) (Nat.le_of_ble_eq_true rfl)
  rw [lg_entry_eq]
  generalize (lg_sl ([.ref (ad 1), .int x, .int v]) ++ List.replicate (3 - (lg_sl ([.ref (ad 1), .int x, .int v])).length) Slot.unset).toArray = ls at hl ⊢
  have hl : lv_has ls 3 [(0, .ref (ad 1)), (1, .int x), (2, .int v)] := hl
  refine lv_iload_n hx hb dX1_isFrom_0 rfl (lv_at hl 1 rfl) ?_
  refine lv_if_lt (tgt := 32) hx hb dX1_isFrom_1 (by decide) (fun b1 => ?_) (fun b1 => ?_)
  · skip
    refine lv_iconst (v := 0) hx hb dX1_isFrom_32 (by decide) ?_
    exact W.zret (v := 0) (ty := .boolean) hx hb hr rfl (fun t ht hW => ⟨_, rfl, (by first | exact hf_neg hg.e24 b1 | exact hf_ge hg.e24 hg.ec b9 | exact hf_24 hg.e24 b15 | (refine Or.inr ⟨rfl, ?_⟩; rintro ⟨j, hj, he, hc⟩; rw [(nI_eq (by have := hg.e24; omega) (by have := hg.e24; omega)).mp he] at b25; rw [hg.c9] at b25; exact b25 hc)), ht⟩) (fun q h => by cases h) dX1_isFrom_33
  · skip
    refine lv_iload_n hx hb dX1_isFrom_4 rfl (lv_at hl 1 rfl) ?_
    refine lv_aload_n hx hb dX1_isFrom_5 rfl (lv_at hl 0 rfl) ?_
    refine va_get (D := en.1) (ci := 1) (v := .int (c 1 1)) (C := RX1) (T := TX1) (N := 9) hx hb hts iw_X1_isFrom_X1 hown hE.1 hP 1 rfl rfl 8 (by decide) (hts (.fieldLink RX1 39 "CreditGame$Graph" "edgeCount" "I") (by decide +kernel)) (fun _ h9 => h9) rfl dX1_isFrom_6 ?_
    refine lv_icmp_ge (tgt := 32) hx hb dX1_isFrom_9 (by decide) (fun b9 => ?_) (fun b9 => ?_)
    · skip
      refine lv_iconst (v := 0) hx hb dX1_isFrom_32 (by decide) ?_
      exact W.zret (v := 0) (ty := .boolean) hx hb hr rfl (fun t ht hW => ⟨_, rfl, (by first | exact hf_neg hg.e24 b1 | exact hf_ge hg.e24 hg.ec b9 | exact hf_24 hg.e24 b15 | (refine Or.inr ⟨rfl, ?_⟩; rintro ⟨j, hj, he, hc⟩; rw [(nI_eq (by have := hg.e24; omega) (by have := hg.e24; omega)).mp he] at b25; rw [hg.c9] at b25; exact b25 hc)), ht⟩) (fun q h => by cases h) dX1_isFrom_33
    · skip
      refine lv_iload_n hx hb dX1_isFrom_12 rfl (lv_at hl 1 rfl) ?_
      refine lv_bipush (v := 24) hx hb dX1_isFrom_13 (by decide) ?_
      refine lv_icmp_ge (tgt := 32) hx hb dX1_isFrom_15 (by decide) (fun b15 => ?_) (fun b15 => ?_)
      · skip
        refine lv_iconst (v := 0) hx hb dX1_isFrom_32 (by decide) ?_
        exact W.zret (v := 0) (ty := .boolean) hx hb hr rfl (fun t ht hW => ⟨_, rfl, (by first | exact hf_neg hg.e24 b1 | exact hf_ge hg.e24 hg.ec b9 | exact hf_24 hg.e24 b15 | (refine Or.inr ⟨rfl, ?_⟩; rintro ⟨j, hj, he, hc⟩; rw [(nI_eq (by have := hg.e24; omega) (by have := hg.e24; omega)).mp he] at b25; rw [hg.c9] at b25; exact b25 hc)), ht⟩) (fun q h => by cases h) dX1_isFrom_33
      · skip
        obtain ⟨k, hk, rfl⟩ := ix_of (by have := hg.e24; omega) hg.ec b1 b9
        skip
        refine lv_aload_n hx hb dX1_isFrom_18 rfl (lv_at hl 0 rfl) ?_
        refine va_get (D := en.1) (ci := 1) (v := .ref (ad 9)) (C := RX1) (T := TX1) (N := 9) hx hb hts iw_X1_isFrom_X1 hown hE.1 hP 1 rfl rfl 4 (by decide) (hts (.fieldLink RX1 26 "CreditGame$Graph" "source" "[I") (by decide +kernel)) (fun _ h9 => h9) rfl dX1_isFrom_19 ?_
        refine lv_iload_n hx hb dX1_isFrom_22 rfl (lv_at hl 1 rfl) ?_
        refine xr_ild hx hb hE hP 9 (by decide) k rfl (show _ < 24 by have := hg.e24; omega) dX1_isFrom_23 ?_
        refine lv_iload_n hx hb dX1_isFrom_24 rfl (lv_at hl 2 rfl) ?_
        refine lv_icmp_ne (tgt := 32) hx hb dX1_isFrom_25 (by decide) (fun b25 => ?_) (fun b25 => ?_)
        · skip
          refine lv_iconst (v := 0) hx hb dX1_isFrom_32 (by decide) ?_
          exact W.zret (v := 0) (ty := .boolean) hx hb hr rfl (fun t ht hW => ⟨_, rfl, (by first | exact hf_neg hg.e24 b1 | exact hf_ge hg.e24 hg.ec b9 | exact hf_24 hg.e24 b15 | (refine Or.inr ⟨rfl, ?_⟩; rintro ⟨j, hj, he, hc⟩; rw [(nI_eq (by have := hg.e24; omega) (by have := hg.e24; omega)).mp he] at b25; rw [hg.c9] at b25; exact b25 hc)), ht⟩) (fun q h => by cases h) dX1_isFrom_33
        · skip
          refine lv_iconst (v := 1) hx hb dX1_isFrom_28 (by decide) ?_
          refine lv_goto (tgt := 33) hx hb dX1_isFrom_29 (by decide) ?_
          exact W.zret (v := 1) (ty := .boolean) hx hb hr rfl (fun t ht hW => ⟨_, rfl, (Or.inl ⟨rfl, k, hk, rfl, by rw [← hg.c9]; exact b25⟩), ht⟩) (fun q h => by cases h) dX1_isFrom_33
theorem iw_X1_ownerOf_X1 : ∀ w ∈ wsX10, w ∈ wsX1_ownerOf := by decide +kernel
set_option maxHeartbeats 4000000 in
set_option maxRecDepth 100000 in
/--  -/
theorem ct_ownerOf (l : Launch) (en : en_T) (ad : Nat → Nat) (c : Nat → Nat → Int32) {G : gr_T} (hg : gi G c) (j : Nat) (hj : j < 7) : Met l yX1_ownerOf wsX1_ownerOf (rm_ 2 0 0) (ct_Pc en [.ref (ad 1), .int (nI j)] (fun H => va_P en.1 vwCl (xw en ad c) H)) (ro_Qi (fun r => r = if j < gr_n G then gr_own G j else 0)) 0 0 (fun _ => False) := by
  refine Met.ofW (cc := cX1_ownerOf) (maxL := 2) (ret := (some .int)) (by decide) rfl ?_
  intro p e s m args below meth co s₁ B hml hv
  obtain ⟨rfl, hE, hP⟩ := hv
  have hx := B.exec
  have hb := B.bytes
  have hr := B.returns
  have hts := atoms_spec (ws := wsX1_ownerOf) B.pre
  have hown : s.vm.findClass RX1 = some m.cls := findClass_of_methodNamed B.named
  have hlocks := B.notSynchronized
  have hl := lv_entry ([.ref (ad 1), .int (nI j)]) (n := 2) (Nat.le_of_ble_eq_true rfl)
  rw [lg_entry_eq]
  generalize (lg_sl ([.ref (ad 1), .int (nI j)]) ++ List.replicate (2 - (lg_sl ([.ref (ad 1), .int (nI j)])).length) Slot.unset).toArray = ls at hl ⊢
  have hl : lv_has ls 2 [(0, .ref (ad 1)), (1, .int (nI j))] := hl
  refine lv_aload_n hx hb dX1_ownerOf_0 rfl (lv_at hl 0 rfl) ?_
  refine lv_iload_n hx hb dX1_ownerOf_1 rfl (lv_at hl 1 rfl) ?_
  refine ro_calli (va_runV (As := [.int (nI j)]) (rest := []) ⟨hx, hb, hml, hown, hts⟩ (ct_hasVertex l en ad c hg (nI j)) (cwV 1 hts gX1_ownerOf_X1_hasVertex rfl rfl rfl (by decide +kernel) ⟨Nat.le_of_ble_eq_true rfl, Nat.le_of_ble_eq_true rfl⟩) (ct_preV hE (va_recv hE.1 hP (ci := 1) (q0 := 1) rfl rfl) hP) rfl rfl hl.1 rfl (lv_room (Nat.le_of_ble_eq_true rfl)) dX1_ownerOf_2 ⟨Nat.le_of_ble_eq_true rfl, Nat.le_of_ble_eq_true rfl⟩) (fun r2 w2 => ?_)
  refine lv_if_eq (tgt := 17) hx hb dX1_ownerOf_5 (by decide) (fun b5 => ?_) (fun b5 => ?_)
  · skip
    refine lv_iconst (v := 0) hx hb dX1_ownerOf_17 (by decide) ?_
    exact W.iret (v := 0) hx hb hr (fun t ht hW => ⟨_, rfl, (by first | exact (if_neg (hv_nlt w2 b5)).symm | exact (by rw [if_pos (hv_lt hg.n7 (by omega) w2 b5), hg.c6])), ht⟩) (fun q h => by cases h) dX1_ownerOf_18
  · skip
    refine lv_aload_n hx hb dX1_ownerOf_8 rfl (lv_at hl 0 rfl) ?_
    refine va_get (D := en.1) (ci := 1) (v := .ref (ad 6)) (C := RX1) (T := TX1) (N := 9) hx hb hts iw_X1_ownerOf_X1 hown hE.1 hP 1 rfl rfl 0 (by decide) (hts (.fieldLink RX1 9 "CreditGame$Graph" "owner" "[I") (by decide +kernel)) (fun _ h9 => h9) rfl dX1_ownerOf_9 ?_
    refine lv_iload_n hx hb dX1_ownerOf_12 rfl (lv_at hl 1 rfl) ?_
    refine xr_ild hx hb hE hP 6 (by decide) j rfl (show _ < 7 by omega) dX1_ownerOf_13 ?_
    refine lv_goto (tgt := 18) hx hb dX1_ownerOf_14 (by decide) ?_
    exact W.iret (v := (c 6 j)) hx hb hr (fun t ht hW => ⟨_, rfl, (by first | exact (if_neg (hv_nlt w2 b5)).symm | exact (by rw [if_pos (hv_lt hg.n7 (by omega) w2 b5), hg.c6])), ht⟩) (fun q h => by cases h) dX1_ownerOf_18
theorem iw_X1_fixedOf_X1 : ∀ w ∈ wsX10, w ∈ wsX1_fixedOf := by decide +kernel
set_option maxHeartbeats 4000000 in
set_option maxRecDepth 100000 in
/--  -/
theorem ct_fixedOf (l : Launch) (en : en_T) (ad : Nat → Nat) (c : Nat → Nat → Int32) {G : gr_T} (hg : gi G c) (j : Nat) (hj : j < 7) : Met l yX1_fixedOf wsX1_fixedOf (rm_ 2 0 0) (ct_Pc en [.ref (ad 1), .int (nI j)] (fun H => va_P en.1 vwCl (xw en ad c) H)) (ro_Qi (fun r => r = if j < gr_n G then gr_fx G j else (-1))) 0 0 (fun _ => False) := by
  refine Met.ofW (cc := cX1_fixedOf) (maxL := 2) (ret := (some .int)) (by decide) rfl ?_
  intro p e s m args below meth co s₁ B hml hv
  obtain ⟨rfl, hE, hP⟩ := hv
  have hx := B.exec
  have hb := B.bytes
  have hr := B.returns
  have hts := atoms_spec (ws := wsX1_fixedOf) B.pre
  have hown : s.vm.findClass RX1 = some m.cls := findClass_of_methodNamed B.named
  have hlocks := B.notSynchronized
  have hl := lv_entry ([.ref (ad 1), .int (nI j)]) (n := 2) (Nat.le_of_ble_eq_true rfl)
  rw [lg_entry_eq]
  generalize (lg_sl ([.ref (ad 1), .int (nI j)]) ++ List.replicate (2 - (lg_sl ([.ref (ad 1), .int (nI j)])).length) Slot.unset).toArray = ls at hl ⊢
  have hl : lv_has ls 2 [(0, .ref (ad 1)), (1, .int (nI j))] := hl
  refine lv_aload_n hx hb dX1_fixedOf_0 rfl (lv_at hl 0 rfl) ?_
  refine lv_iload_n hx hb dX1_fixedOf_1 rfl (lv_at hl 1 rfl) ?_
  refine ro_calli (va_runV (As := [.int (nI j)]) (rest := []) ⟨hx, hb, hml, hown, hts⟩ (ct_hasVertex l en ad c hg (nI j)) (cwV 1 hts gX1_fixedOf_X1_hasVertex rfl rfl rfl (by decide +kernel) ⟨Nat.le_of_ble_eq_true rfl, Nat.le_of_ble_eq_true rfl⟩) (ct_preV hE (va_recv hE.1 hP (ci := 1) (q0 := 1) rfl rfl) hP) rfl rfl hl.1 rfl (lv_room (Nat.le_of_ble_eq_true rfl)) dX1_fixedOf_2 ⟨Nat.le_of_ble_eq_true rfl, Nat.le_of_ble_eq_true rfl⟩) (fun r2 w2 => ?_)
  refine lv_if_eq (tgt := 17) hx hb dX1_fixedOf_5 (by decide) (fun b5 => ?_) (fun b5 => ?_)
  · skip
    refine lv_iconst (v := (-1)) hx hb dX1_fixedOf_17 (by decide) ?_
    exact W.iret (v := (-1)) hx hb hr (fun t ht hW => ⟨_, rfl, (by first | exact (if_neg (hv_nlt w2 b5)).symm | exact (by rw [if_pos (hv_lt hg.n7 (by omega) w2 b5), hg.c7])), ht⟩) (fun q h => by cases h) dX1_fixedOf_18
  · skip
    refine lv_aload_n hx hb dX1_fixedOf_8 rfl (lv_at hl 0 rfl) ?_
    refine va_get (D := en.1) (ci := 1) (v := .ref (ad 7)) (C := RX1) (T := TX1) (N := 9) hx hb hts iw_X1_fixedOf_X1 hown hE.1 hP 1 rfl rfl 1 (by decide) (hts (.fieldLink RX1 15 "CreditGame$Graph" "fixedTo" "[I") (by decide +kernel)) (fun _ h9 => h9) rfl dX1_fixedOf_9 ?_
    refine lv_iload_n hx hb dX1_fixedOf_12 rfl (lv_at hl 1 rfl) ?_
    refine xr_ild hx hb hE hP 7 (by decide) j rfl (show _ < 7 by omega) dX1_fixedOf_13 ?_
    refine lv_goto (tgt := 18) hx hb dX1_fixedOf_14 (by decide) ?_
    exact W.iret (v := (c 7 j)) hx hb hr (fun t ht hW => ⟨_, rfl, (by first | exact (if_neg (hv_nlt w2 b5)).symm | exact (by rw [if_pos (hv_lt hg.n7 (by omega) w2 b5), hg.c7])), ht⟩) (fun q h => by cases h) dX1_fixedOf_18
theorem iw_X1_targetOf_X1 : ∀ w ∈ wsX10, w ∈ wsX1_targetOf := by decide +kernel
set_option maxHeartbeats 4000000 in
set_option maxRecDepth 100000 in
/--  -/
theorem ct_targetOf (l : Launch) (en : en_T) (ad : Nat → Nat) (c : Nat → Nat → Int32) {G : gr_T} (hg : gi G c) (x : Nat) (hx2 : x < 24) : Met l yX1_targetOf wsX1_targetOf (rm_ 1 0 0) (ct_Pc en [.ref (ad 1), .int (nI x)] (fun H => va_P en.1 vwCl (xw en ad c) H)) (ro_Qi (fun r => r = gr_tg G x)) 0 0 (fun _ => False) := by
  refine Met.ofW (cc := cX1_targetOf) (maxL := 2) (ret := (some .int)) (by decide) rfl ?_
  intro p e s m args below meth co s₁ B hml hv
  obtain ⟨rfl, hE, hP⟩ := hv
  have hx := B.exec
  have hb := B.bytes
  have hr := B.returns
  have hts := atoms_spec (ws := wsX1_targetOf) B.pre
  have hown : s.vm.findClass RX1 = some m.cls := findClass_of_methodNamed B.named
  have hlocks := B.notSynchronized
  have hl := lv_entry ([.ref (ad 1), .int (nI x)]) (n := 2) (Nat.le_of_ble_eq_true rfl)
  rw [lg_entry_eq]
  generalize (lg_sl ([.ref (ad 1), .int (nI x)]) ++ List.replicate (2 - (lg_sl ([.ref (ad 1), .int (nI x)])).length) Slot.unset).toArray = ls at hl ⊢
  have hl : lv_has ls 2 [(0, .ref (ad 1)), (1, .int (nI x))] := hl
  refine lv_iload_n hx hb dX1_targetOf_0 rfl (lv_at hl 1 rfl) ?_
  refine lv_if_lt (tgt := 19) hx hb dX1_targetOf_1 (by decide) (fun b1 => absurd b1 (nI_pos (by omega))) (fun b1 => ?_)
  refine lv_iload_n hx hb dX1_targetOf_4 rfl (lv_at hl 1 rfl) ?_
  refine lv_bipush (v := (nI 24)) hx hb dX1_targetOf_5 (by decide) ?_
  refine lv_icmp_ge (tgt := 19) hx hb dX1_targetOf_7 (by decide) (fun b7 => absurd b7 (nI_ge (show x < 24 by omega) (by omega))) (fun b7 => ?_)
  refine lv_aload_n hx hb dX1_targetOf_10 rfl (lv_at hl 0 rfl) ?_
  refine va_get (D := en.1) (ci := 1) (v := .ref (ad 10)) (C := RX1) (T := TX1) (N := 9) hx hb hts iw_X1_targetOf_X1 hown hE.1 hP 1 rfl rfl 5 (by decide) (hts (.fieldLink RX1 29 "CreditGame$Graph" "target" "[I") (by decide +kernel)) (fun _ h9 => h9) rfl dX1_targetOf_11 ?_
  refine lv_iload_n hx hb dX1_targetOf_14 rfl (lv_at hl 1 rfl) ?_
  refine xr_ild hx hb hE hP 10 (by decide) x rfl (show _ < 24 by omega) dX1_targetOf_15 ?_
  refine lv_goto (tgt := 20) hx hb dX1_targetOf_16 (by decide) ?_
  exact W.iret (v := (c 10 x)) hx hb hr (fun t ht hW => ⟨_, rfl, (by rw [hg.c10]), ht⟩) (fun q h => by cases h) dX1_targetOf_20
theorem iw_X1_weightOf_X1 : ∀ w ∈ wsX10, w ∈ wsX1_weightOf := by decide +kernel
set_option maxHeartbeats 4000000 in
set_option maxRecDepth 100000 in
/--  -/
theorem ct_weightOf (l : Launch) (en : en_T) (ad : Nat → Nat) (c : Nat → Nat → Int32) {G : gr_T} (hg : gi G c) (x : Nat) (hx2 : x < 24) : Met l yX1_weightOf wsX1_weightOf (rm_ 1 0 0) (ct_Pc en [.ref (ad 1), .int (nI x)] (fun H => va_P en.1 vwCl (xw en ad c) H)) (ro_Qi (fun r => r = gr_wt G x)) 0 0 (fun _ => False) := by
  refine Met.ofW (cc := cX1_weightOf) (maxL := 2) (ret := (some .int)) (by decide) rfl ?_
  intro p e s m args below meth co s₁ B hml hv
  obtain ⟨rfl, hE, hP⟩ := hv
  have hx := B.exec
  have hb := B.bytes
  have hr := B.returns
  have hts := atoms_spec (ws := wsX1_weightOf) B.pre
  have hown : s.vm.findClass RX1 = some m.cls := findClass_of_methodNamed B.named
  have hlocks := B.notSynchronized
  have hl := lv_entry ([.ref (ad 1), .int (nI x)]) (n := 2) (Nat.le_of_ble_eq_true rfl)
  rw [lg_entry_eq]
  generalize (lg_sl ([.ref (ad 1), .int (nI x)]) ++ List.replicate (2 - (lg_sl ([.ref (ad 1), .int (nI x)])).length) Slot.unset).toArray = ls at hl ⊢
  have hl : lv_has ls 2 [(0, .ref (ad 1)), (1, .int (nI x))] := hl
  refine lv_iload_n hx hb dX1_weightOf_0 rfl (lv_at hl 1 rfl) ?_
  refine lv_if_lt (tgt := 19) hx hb dX1_weightOf_1 (by decide) (fun b1 => absurd b1 (nI_pos (by omega))) (fun b1 => ?_)
  refine lv_iload_n hx hb dX1_weightOf_4 rfl (lv_at hl 1 rfl) ?_
  refine lv_bipush (v := (nI 24)) hx hb dX1_weightOf_5 (by decide) ?_
  refine lv_icmp_ge (tgt := 19) hx hb dX1_weightOf_7 (by decide) (fun b7 => absurd b7 (nI_ge (show x < 24 by omega) (by omega))) (fun b7 => ?_)
  refine lv_aload_n hx hb dX1_weightOf_10 rfl (lv_at hl 0 rfl) ?_
  refine va_get (D := en.1) (ci := 1) (v := .ref (ad 11)) (C := RX1) (T := TX1) (N := 9) hx hb hts iw_X1_weightOf_X1 hown hE.1 hP 1 rfl rfl 6 (by decide) (hts (.fieldLink RX1 32 "CreditGame$Graph" "weight" "[I") (by decide +kernel)) (fun _ h9 => h9) rfl dX1_weightOf_11 ?_
  refine lv_iload_n hx hb dX1_weightOf_14 rfl (lv_at hl 1 rfl) ?_
  refine xr_ild hx hb hE hP 11 (by decide) x rfl (show _ < 24 by omega) dX1_weightOf_15 ?_
  refine lv_goto (tgt := 20) hx hb dX1_weightOf_16 (by decide) ?_
  exact W.iret (v := (c 11 x)) hx hb hr (fun t ht hW => ⟨_, rfl, (by rw [hg.c11]), ht⟩) (fun q h => by cases h) dX1_weightOf_20
theorem iw_X1_waysFrom_X1 : ∀ w ∈ wsX10, w ∈ wsX1_waysFrom := by decide +kernel
set_option maxHeartbeats 4000000 in
set_option maxRecDepth 100000 in
/-- how many edges lead on -/
theorem ct_waysFrom (l : Launch) (en : en_T) (ad : Nat → Nat) (c : Nat → Nat → Int32) {G : gr_T} (hg : gi G c) (j : Nat) (hj : j < 7) : Met l yX1_waysFrom wsX1_waysFrom (rm_ 2 0 0) (ct_Pc en [.ref (ad 1), .int (nI j)] (fun H => va_P en.1 vwCl (xw en ad c) H)) (ro_Qi (fun r => r = nI (gr_adj G j).length)) 0 0 (fun _ => False) := by
  refine Met.ofW (cc := cX1_waysFrom) (maxL := 2) (ret := (some .int)) (by decide) rfl ?_
  intro p e s m args below meth co s₁ B hml hv
  obtain ⟨rfl, hE, hP⟩ := hv
  have hx := B.exec
  have hb := B.bytes
  have hr := B.returns
  have hts := atoms_spec (ws := wsX1_waysFrom) B.pre
  have hown : s.vm.findClass RX1 = some m.cls := findClass_of_methodNamed B.named
  have hlocks := B.notSynchronized
  have hl := lv_entry ([.ref (ad 1), .int (nI j)]) (n := 2) (Nat.le_of_ble_eq_true rfl)
  rw [lg_entry_eq]
  generalize (lg_sl ([.ref (ad 1), .int (nI j)]) ++ List.replicate (2 - (lg_sl ([.ref (ad 1), .int (nI j)])).length) Slot.unset).toArray = ls at hl ⊢
  have hl : lv_has ls 2 [(0, .ref (ad 1)), (1, .int (nI j))] := hl
  refine lv_aload_n hx hb dX1_waysFrom_0 rfl (lv_at hl 0 rfl) ?_
  refine lv_iload_n hx hb dX1_waysFrom_1 rfl (lv_at hl 1 rfl) ?_
  refine ro_calli (va_runV (As := [.int (nI j)]) (rest := []) ⟨hx, hb, hml, hown, hts⟩ (ct_hasVertex l en ad c hg (nI j)) (cwV 1 hts gX1_waysFrom_X1_hasVertex rfl rfl rfl (by decide +kernel) ⟨Nat.le_of_ble_eq_true rfl, Nat.le_of_ble_eq_true rfl⟩) (ct_preV hE (va_recv hE.1 hP (ci := 1) (q0 := 1) rfl rfl) hP) rfl rfl hl.1 rfl (lv_room (Nat.le_of_ble_eq_true rfl)) dX1_waysFrom_2 ⟨Nat.le_of_ble_eq_true rfl, Nat.le_of_ble_eq_true rfl⟩) (fun r2 w2 => ?_)
  refine lv_if_ne (tgt := 10) hx hb dX1_waysFrom_5 (by decide) (fun b5 => ?_) (fun b5 => ?_)
  · skip
    have hn := hv_lt hg.n7 (by omega) w2 b5
    refine lv_aload_n hx hb dX1_waysFrom_10 rfl (lv_at hl 0 rfl) ?_
    refine va_get (D := en.1) (ci := 1) (v := .ref (ad 7)) (C := RX1) (T := TX1) (N := 9) hx hb hts iw_X1_waysFrom_X1 hown hE.1 hP 1 rfl rfl 1 (by decide) (hts (.fieldLink RX1 15 "CreditGame$Graph" "fixedTo" "[I") (by decide +kernel)) (fun _ h9 => h9) rfl dX1_waysFrom_11 ?_
    refine lv_iload_n hx hb dX1_waysFrom_14 rfl (lv_at hl 1 rfl) ?_
    refine xr_ild hx hb hE hP 7 (by decide) j rfl (show _ < 7 by omega) dX1_waysFrom_15 ?_
    refine lv_iconst (v := (-1)) hx hb dX1_waysFrom_16 (by decide) ?_
    refine lv_icmp_eq (tgt := 24) hx hb dX1_waysFrom_17 (by decide) (fun b17 => ?_) (fun b17 => ?_)
    · skip
      rw [hg.c7] at b17
      refine lv_aload_n hx hb dX1_waysFrom_24 rfl (lv_at hl 0 rfl) ?_
      refine va_get (D := en.1) (ci := 1) (v := .ref (ad 8)) (C := RX1) (T := TX1) (N := 9) hx hb hts iw_X1_waysFrom_X1 hown hE.1 hP 1 rfl rfl 2 (by decide) (hts (.fieldLink RX1 18 "CreditGame$Graph" "outCount" "[I") (by decide +kernel)) (fun _ h9 => h9) rfl dX1_waysFrom_25 ?_
      refine lv_iload_n hx hb dX1_waysFrom_28 rfl (lv_at hl 1 rfl) ?_
      refine xr_ild hx hb hE hP 8 (by decide) j rfl (show _ < 7 by omega) dX1_waysFrom_29 ?_
      exact W.iret (v := (c 8 j)) hx hb hr (fun t ht hW => ⟨_, rfl, (by first | (rw [gr_adj_ge hn]; rfl) | (rw [gr_adj_fix hn hf (by have := hg.e24; omega)]; rfl) | (rw [gr_adj_free hn b17]; exact (hg.rows j hj).1)), ht⟩) (fun q h => by cases h) dX1_waysFrom_30
    · skip
      rw [hg.c7] at b17
      obtain ⟨x, hxE, hf, hs⟩ := (hg.ok.fx j hn).resolve_left b17
      refine lv_iconst (v := 1) hx hb dX1_waysFrom_20 (by decide) ?_
      refine lv_goto (tgt := 30) hx hb dX1_waysFrom_21 (by decide) ?_
      exact W.iret (v := 1) hx hb hr (fun t ht hW => ⟨_, rfl, (by first | (rw [gr_adj_ge hn]; rfl) | (rw [gr_adj_fix hn hf (by have := hg.e24; omega)]; rfl) | (rw [gr_adj_free hn b17]; exact (hg.rows j hj).1)), ht⟩) (fun q h => by cases h) dX1_waysFrom_30
  · skip
    have hn := hv_nlt w2 b5
    refine lv_iconst (v := 0) hx hb dX1_waysFrom_8 (by decide) ?_
    exact W.iret (v := 0) hx hb hr (fun t ht hW => ⟨_, rfl, (by first | (rw [gr_adj_ge hn]; rfl) | (rw [gr_adj_fix hn hf (by have := hg.e24; omega)]; rfl) | (rw [gr_adj_free hn b17]; exact (hg.rows j hj).1)), ht⟩) (fun q h => by cases h) dX1_waysFrom_9
theorem iw_X1_wayFrom_X1 : ∀ w ∈ wsX10, w ∈ wsX1_wayFrom := by decide +kernel
set_option maxHeartbeats 4000000 in
set_option maxRecDepth 100000 in
/-- the k-th edge that leads on -/
theorem ct_wayFrom (l : Launch) (en : en_T) (ad : Nat → Nat) (c : Nat → Nat → Int32) {G : gr_T} (hg : gi G c) (j k : Nat) (hj : j < gr_n G) (hk : k < (gr_adj G j).length) : Met l yX1_wayFrom wsX1_wayFrom (rm_ 2 0 0) (ct_Pc en [.ref (ad 1), .int (nI j), .int (nI k)] (fun H => va_P en.1 vwCl (xw en ad c) H)) (ro_Qi (fun r => r = nI ((gr_adj G j).getD k 0))) 0 0 (fun _ => False) := by
  refine Met.ofW (cc := cX1_wayFrom) (maxL := 3) (ret := (some .int)) (by decide) rfl ?_
  intro p e s m args below meth co s₁ B hml hv
  obtain ⟨rfl, hE, hP⟩ := hv
  have hx := B.exec
  have hb := B.bytes
  have hr := B.returns
  have hts := atoms_spec (ws := wsX1_wayFrom) B.pre
  have hown : s.vm.findClass RX1 = some m.cls := findClass_of_methodNamed B.named
  have hlocks := B.notSynchronized
  have hl := lv_entry ([.ref (ad 1), .int (nI j), .int (nI k)]) (n := 3) (Nat.le_of_ble_eq_true rfl)
  rw [lg_entry_eq]
  generalize (lg_sl ([.ref (ad 1), .int (nI j), .int (nI k)]) ++ List.replicate (3 - (lg_sl ([.ref (ad 1), .int (nI j), .int (nI k)])).length) Slot.unset).toArray = ls at hl ⊢
  have hl : lv_has ls 3 [(0, .ref (ad 1)), (1, .int (nI j)), (2, .int (nI k))] := hl
  have hoc := (hg.rows j (by have := hg.n7; omega)).1
  have hko : k < (gr_out G j).length := by
    rcases hg.ok.fx j hj with hf | ⟨x, hxE, hf, hs⟩
    · rw [gr_adj_free hj hf] at hk; exact hk
    · rw [gr_adj_fix hj hf (by have := hg.e24; omega)] at hk
      have hm := List.length_pos_of_mem (gr_out_mem.mpr ⟨hxE, hs⟩)
      simp only [List.length_cons, List.length_nil] at hk
      omega
  refine lv_aload_n hx hb dX1_wayFrom_0 rfl (lv_at hl 0 rfl) ?_
  refine lv_iload_n hx hb dX1_wayFrom_1 rfl (lv_at hl 1 rfl) ?_
  refine ro_calli (va_runV (As := [.int (nI j)]) (rest := []) ⟨hx, hb, hml, hown, hts⟩ (ct_hasVertex l en ad c hg (nI j)) (cwV 1 hts gX1_wayFrom_X1_hasVertex rfl rfl rfl (by decide +kernel) ⟨Nat.le_of_ble_eq_true rfl, Nat.le_of_ble_eq_true rfl⟩) (ct_preV hE (va_recv hE.1 hP (ci := 1) (q0 := 1) rfl rfl) hP) rfl rfl hl.1 rfl (lv_room (Nat.le_of_ble_eq_true rfl)) dX1_wayFrom_2 ⟨Nat.le_of_ble_eq_true rfl, Nat.le_of_ble_eq_true rfl⟩) (fun r2 w2 => ?_)
  obtain rfl : r2 = 1 := hv_one hj w2
  refine lv_if_eq (tgt := 28) hx hb dX1_wayFrom_5 (by decide) (fun b5 => absurd b5 (by decide)) (fun b5 => ?_)
  refine lv_iload_n hx hb dX1_wayFrom_8 rfl (lv_at hl 2 rfl) ?_
  refine lv_if_lt (tgt := 28) hx hb dX1_wayFrom_9 (by decide) (fun b9 => absurd b9 (nI_pos (by have := gr_adj_len hg.ok j; omega))) (fun b9 => ?_)
  refine lv_iload_n hx hb dX1_wayFrom_12 rfl (lv_at hl 2 rfl) ?_
  refine lv_aload_n hx hb dX1_wayFrom_13 rfl (lv_at hl 0 rfl) ?_
  refine va_get (D := en.1) (ci := 1) (v := .ref (ad 8)) (C := RX1) (T := TX1) (N := 9) hx hb hts iw_X1_wayFrom_X1 hown hE.1 hP 1 rfl rfl 2 (by decide) (hts (.fieldLink RX1 18 "CreditGame$Graph" "outCount" "[I") (by decide +kernel)) (fun _ h9 => h9) rfl dX1_wayFrom_14 ?_
  refine lv_iload_n hx hb dX1_wayFrom_17 rfl (lv_at hl 1 rfl) ?_
  refine xr_ild hx hb hE hP 8 (by decide) j rfl (show _ < 7 by have := hg.n7; omega) dX1_wayFrom_18 ?_
  refine lv_icmp_ge (tgt := 28) hx hb dX1_wayFrom_19 (by decide) (fun b19 => absurd b19 (by rw [hoc]; exact nI_ge hko (by have := gr_out_len G j; have := hg.e24; omega))) (fun b19 => ?_)
  refine lv_iload_n hx hb dX1_wayFrom_22 rfl (lv_at hl 2 rfl) ?_
  refine lv_bipush (v := (nI 24)) hx hb dX1_wayFrom_23 (by decide) ?_
  refine lv_icmp_lt (tgt := 30) hx hb dX1_wayFrom_25 (by decide) (fun b25 => ?_) (fun b25 => absurd b25 (fun h => h (nI_lt (show k < 24 by have := gr_adj_len hg.ok j; omega) (by omega))))
  refine lv_aload_n hx hb dX1_wayFrom_30 rfl (lv_at hl 0 rfl) ?_
  refine va_get (D := en.1) (ci := 1) (v := .ref (ad 7)) (C := RX1) (T := TX1) (N := 9) hx hb hts iw_X1_wayFrom_X1 hown hE.1 hP 1 rfl rfl 1 (by decide) (hts (.fieldLink RX1 15 "CreditGame$Graph" "fixedTo" "[I") (by decide +kernel)) (fun _ h9 => h9) rfl dX1_wayFrom_31 ?_
  refine lv_iload_n hx hb dX1_wayFrom_34 rfl (lv_at hl 1 rfl) ?_
  refine xr_ild hx hb hE hP 7 (by decide) j rfl (show _ < 7 by have := hg.n7; omega) dX1_wayFrom_35 ?_
  refine lv_iconst (v := (-1)) hx hb dX1_wayFrom_36 (by decide) ?_
  refine lv_icmp_eq (tgt := 49) hx hb dX1_wayFrom_37 (by decide) (fun b37 => ?_) (fun b37 => ?_)
  · skip
    rw [hg.c7] at b37
    rw [gr_adj_free hj b37] at hk ⊢
    refine lv_aload_n hx hb dX1_wayFrom_49 rfl (lv_at hl 0 rfl) ?_
    refine va_get (D := en.1) (ci := 1) (v := .ref (ad 21)) (C := RX1) (T := TX1) (N := 9) hx hb hts iw_X1_wayFrom_X1 hown hE.1 hP 1 rfl rfl 3 (by decide) (hts (.fieldLink RX1 23 "CreditGame$Graph" "out" "[[I") (by decide +kernel)) (fun _ h9 => h9) rfl dX1_wayFrom_50 ?_
    refine lv_iload_n hx hb dX1_wayFrom_53 rfl (lv_at hl 1 rfl) ?_
    refine xr_ald hx hb hE hP j rfl (by have := hg.n7; omega) dX1_wayFrom_54 ?_
    refine lv_iload_n hx hb dX1_wayFrom_55 rfl (lv_at hl 2 rfl) ?_
    refine xr_ild hx hb hE hP (22 + j) (xw_row0 (by have := hg.n7; omega)) k rfl (xw_rowl (by have := hg.n7; omega) (by have := gr_out_len G j; have := hg.e24; omega)) dX1_wayFrom_56 ?_
    exact W.iret (v := (c (22 + j) k)) hx hb hr (fun t ht hW => ⟨_, rfl, (by first | exact (hg.rows j (by have := hg.n7; omega)).2 k hk | (rw [hg.c7]; exact hf)), ht⟩) (fun q h => by cases h) dX1_wayFrom_57
  · skip
    rw [hg.c7] at b37
    obtain ⟨x, hxE, hf, hs⟩ := (hg.ok.fx j hj).resolve_left b37
    rw [gr_adj_fix hj hf (by have := hg.e24; omega)] at hk ⊢
    obtain rfl : k = 0 := by simpa using hk
    refine lv_aload_n hx hb dX1_wayFrom_40 rfl (lv_at hl 0 rfl) ?_
    refine va_get (D := en.1) (ci := 1) (v := .ref (ad 7)) (C := RX1) (T := TX1) (N := 9) hx hb hts iw_X1_wayFrom_X1 hown hE.1 hP 1 rfl rfl 1 (by decide) (hts (.fieldLink RX1 15 "CreditGame$Graph" "fixedTo" "[I") (by decide +kernel)) (fun _ h9 => h9) rfl dX1_wayFrom_41 ?_
    refine lv_iload_n hx hb dX1_wayFrom_44 rfl (lv_at hl 1 rfl) ?_
    refine xr_ild hx hb hE hP 7 (by decide) j rfl (show _ < 7 by have := hg.n7; omega) dX1_wayFrom_45 ?_
    refine lv_goto (tgt := 57) hx hb dX1_wayFrom_46 (by decide) ?_
    exact W.iret (v := (c 7 j)) hx hb hr (fun t ht hW => ⟨_, rfl, (by first | exact (hg.rows j (by have := hg.n7; omega)).2 k hk | (rw [hg.c7]; exact hf)), ht⟩) (fun q h => by cases h) dX1_wayFrom_57
theorem iw_X1_isComplete_X1 : ∀ w ∈ wsX10, w ∈ wsX1_isComplete := by decide +kernel
set_option maxHeartbeats 4000000 in
set_option maxRecDepth 100000 in
/-- does an edge lead on from each vertex -/
theorem ct_isComplete (l : Launch) (en : en_T) (ad : Nat → Nat) (c : Nat → Nat → Int32) {G : gr_T} (hg : gi G c) : Met l yX1_isComplete wsX1_isComplete (rm_ 3 0 0) (ct_Pc en [.ref (ad 1)] (fun H => va_P en.1 vwCl (xw en ad c) H)) (ro_Qi (fun r => (r = 1 ∧ 0 < gr_n G ∧ ∀ v, v < gr_n G → gr_adj G v ≠ []) ∨ (r = 0 ∧ ¬ (0 < gr_n G ∧ ∀ v, v < gr_n G → gr_adj G v ≠ [])))) 0 0 (fun _ => False) := by
  refine Met.ofW (cc := cX1_isComplete) (maxL := 2) (ret := (some .boolean)) (by decide) rfl ?_
  intro p e s m args below meth co s₁ B hml hv
  obtain ⟨rfl, hE, hP⟩ := hv
  have hx := B.exec
  have hb := B.bytes
  have hr := B.returns
  have hts := atoms_spec (ws := wsX1_isComplete) B.pre
  have hown : s.vm.findClass RX1 = some m.cls := findClass_of_methodNamed B.named
  have hlocks := B.notSynchronized
  have hl := lv_entry ([.ref (ad 1)]) (n := 2) (Nat.le_of_ble_eq_true rfl)
  rw [lg_entry_eq]
  generalize (lg_sl ([.ref (ad 1)]) ++ List.replicate (2 - (lg_sl ([.ref (ad 1)])).length) Slot.unset).toArray = ls at hl ⊢
  have hl : lv_has ls 2 [(0, .ref (ad 1))] := hl
  refine lv_iconst (v := (nI 0)) hx hb dX1_isComplete_0 (by decide) ?_
  refine lv_istore_n (lv' := [(1, .int (nI 0)), (0, .ref (ad 1))]) hx hb dX1_isComplete_1 rfl hl (by decide) rfl (fun ls hl => ?_)
  have key2 : ∀ (n_ : Nat) (i : Nat) (ls : Array Slot), i ≤ gr_n G → gr_n G + 1 ≤ i + n_ → (∀ v, v < i → gr_adj G v ≠ []) → lv_has ls 2 [(0, .ref (ad 1)), (1, .int (nI i))] → W p l e (headSpec wsX1_isComplete (rm_ 3 0 0)).room s m ([.ref (ad 1)] : List Value).toArray below meth co s.heap [] 0 0 (MQ below (ro_Qi (fun r => (r = 1 ∧ 0 < gr_n G ∧ ∀ v, v < gr_n G → gr_adj G v ≠ []) ∨ (r = 0 ∧ ¬ (0 < gr_n G ∧ ∀ v, v < gr_n G → gr_adj G v ≠ [])))) ([.ref (ad 1)] : List Value).toArray s 0 0 (fun _ => False)) (F0 m 2 ls []) := by
    intro n_
    induction n_ with
    | zero =>
      intro i ls hi hin hd hl
      exact absurd hin (by omega)
    | succ n_ ih2 =>
      intro i ls hi hin hd hl
      refine lv_iload_n hx hb dX1_isComplete_2 rfl (lv_at hl 1 rfl) ?_
      refine lv_aload_n hx hb dX1_isComplete_3 rfl (lv_at hl 0 rfl) ?_
      refine va_get (D := en.1) (ci := 1) (v := .int (c 1 0)) (C := RX1) (T := TX1) (N := 9) hx hb hts iw_X1_isComplete_X1 hown hE.1 hP 1 rfl rfl 7 (by decide) (hts (.fieldLink RX1 35 "CreditGame$Graph" "vertexCount" "I") (by decide +kernel)) (fun _ h9 => h9) rfl dX1_isComplete_4 ?_
      refine lv_icmp_ge (tgt := 26) hx hb dX1_isComplete_7 (by decide) (fun b7 => ?_) (fun b7 => ?_)
      · skip
        have hin2 : i = gr_n G := by
          rcases Nat.lt_or_ge i (gr_n G) with q | q
          · exact absurd b7 (by rw [hg.vc]; exact nI_ge q (by have := hg.n7; omega))
          · omega
        subst hin2
        refine lv_aload_n hx hb dX1_isComplete_26 rfl (lv_at hl 0 rfl) ?_
        refine va_get (D := en.1) (ci := 1) (v := .int (c 1 0)) (C := RX1) (T := TX1) (N := 9) hx hb hts iw_X1_isComplete_X1 hown hE.1 hP 1 rfl rfl 7 (by decide) (hts (.fieldLink RX1 35 "CreditGame$Graph" "vertexCount" "I") (by decide +kernel)) (fun _ h9 => h9) rfl dX1_isComplete_27 ?_
        refine lv_if_le (tgt := 37) hx hb dX1_isComplete_30 (by decide) (fun b30 => ?_) (fun b30 => ?_)
        · skip
          refine lv_iconst (v := 0) hx hb dX1_isComplete_37 (by decide) ?_
          exact W.zret (v := 0) (ty := .boolean) hx hb hr rfl (fun t ht hW => ⟨_, rfl, (by first | exact Or.inr ⟨rfl, fun h => h.2 i hlt he⟩ | exact Or.inl ⟨rfl, Nat.pos_of_ne_zero (fun h => b30 (by rw [hg.vc, h]; decide)), hd⟩ | exact Or.inr ⟨rfl, fun h => nI_nle h.1 (by have := hg.n7; omega) (by rw [← hg.vc]; exact b30)⟩), ht⟩) (fun q h => by cases h) dX1_isComplete_38
        · skip
          refine lv_iconst (v := 1) hx hb dX1_isComplete_33 (by decide) ?_
          refine lv_goto (tgt := 38) hx hb dX1_isComplete_34 (by decide) ?_
          exact W.zret (v := 1) (ty := .boolean) hx hb hr rfl (fun t ht hW => ⟨_, rfl, (by first | exact Or.inr ⟨rfl, fun h => h.2 i hlt he⟩ | exact Or.inl ⟨rfl, Nat.pos_of_ne_zero (fun h => b30 (by rw [hg.vc, h]; decide)), hd⟩ | exact Or.inr ⟨rfl, fun h => nI_nle h.1 (by have := hg.n7; omega) (by rw [← hg.vc]; exact b30)⟩), ht⟩) (fun q h => by cases h) dX1_isComplete_38
      · skip
        have hlt : i < gr_n G := by
          rcases Nat.lt_or_ge i (gr_n G) with q | q
          · exact q
          · exact absurd (by rw [hg.vc]; exact nI_le q (by have := hg.n7; omega)) b7
        refine lv_aload_n hx hb dX1_isComplete_10 rfl (lv_at hl 0 rfl) ?_
        refine lv_iload_n hx hb dX1_isComplete_11 rfl (lv_at hl 1 rfl) ?_
        refine ro_calli (va_runV (As := [.int (nI i)]) (rest := []) ⟨hx, hb, hml, hown, hts⟩ (ct_waysFrom l en ad c hg i (by have := hg.n7; omega)) (cwV 1 hts gX1_isComplete_X1_waysFrom rfl rfl rfl (by decide +kernel) ⟨Nat.le_of_ble_eq_true rfl, Nat.le_of_ble_eq_true rfl⟩) (ct_preV hE (va_recv hE.1 hP (ci := 1) (q0 := 1) rfl rfl) hP) rfl rfl hl.1 rfl (lv_room (Nat.le_of_ble_eq_true rfl)) dX1_isComplete_12 ⟨Nat.le_of_ble_eq_true rfl, Nat.le_of_ble_eq_true rfl⟩) (fun r12 w12 => ?_)
        obtain rfl : r12 = nI (gr_adj G i).length := w12
        refine lv_if_ne (tgt := 20) hx hb dX1_isComplete_15 (by decide) (fun b15 => ?_) (fun b15 => ?_)
        · skip
          have hne : gr_adj G i ≠ [] := fun h => b15 (by rw [h]; rfl)
          refine lv_iinc (v := (nI (i + 1))) (lv' := [(1, .int (nI (i + 1))), (0, .ref (ad 1))]) hx hb dX1_isComplete_20 hl (k := 1) rfl (nI_1 _) (by decide) rfl (fun ls hl => ?_)
          refine lv_goto (tgt := 2) hx hb dX1_isComplete_23 (by decide) ?_
          exact ih2 (i + 1) _ (by omega) (by omega) (fun v h => by rcases Nat.lt_succ_iff_lt_or_eq.mp h with h | h; exact hd v h; rw [h]; exact hne) (lv_sub hl [1, 0] rfl)
        · skip
          have he : gr_adj G i = [] := by
            rcases hh : gr_adj G i with _ | ⟨a, t⟩
            · rfl
            · rw [hh] at b15; exact absurd b15 (nI_ne0 (by simp) (by have := gr_adj_len hg.ok i; rw [hh] at this; omega))
          refine lv_iconst (v := 0) hx hb dX1_isComplete_18 (by decide) ?_
          exact W.zret (v := 0) (ty := .boolean) hx hb hr rfl (fun t ht hW => ⟨_, rfl, (by first | exact Or.inr ⟨rfl, fun h => h.2 i hlt he⟩ | exact Or.inl ⟨rfl, Nat.pos_of_ne_zero (fun h => b30 (by rw [hg.vc, h]; decide)), hd⟩ | exact Or.inr ⟨rfl, fun h => nI_nle h.1 (by have := hg.n7; omega) (by rw [← hg.vc]; exact b30)⟩), ht⟩) (fun q h => by cases h) dX1_isComplete_19
  exact key2 (gr_n G + 1) 0 _ (Nat.zero_le _) (by omega) (fun v h => absurd h (Nat.not_lt_zero v)) (lv_sub hl [1, 0] rfl)
