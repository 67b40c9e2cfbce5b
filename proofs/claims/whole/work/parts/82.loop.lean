/-! ===== the law's loop, its start ===== -/
set_option maxHeartbeats 4000000 in
set_option maxRecDepth 100000 in
theorem law_loop {p : Program} {e : Env} {s : State} {m : MethodId} {below : List Frame} {meth : Method} {co : Code} {l : Launch} {b L : Nat} {xs : Nat → Int32} {en : en_T} {ad bd : Nat → Nat} {o : Nat} (X0 : lx p s m meth co b L xs l en ad bd o) (hL : L ≤ 2048) :
    ∀ (n t : Nat), 4 * t ≤ L → L + 4 ≤ 4 * t + 4 * n → ∀ (cells slots : Nat), cells + 4 * n ≤ 647528 → slots + 24 * n ≤ 7153520 → ∀ (G : gr_T) (c : Nat → Nat → Int32) (d : mT) (f : Nat → Int64) (H : Heap) (locs : List Loc) (ls : Array Slot), ci G c → mci G d → va_P en.1 vwCl (xw en ad c) H → va_P en.1 vwCl (mw en bd d) H → va_P en.1 vwCl (oW en o f) H → va_S (fun q => s.heap.size ≤ q) s.heap H locs → lv_has ls 7 [(4, .int (nI (4 * t))), (3, .ref o), (2, .ref (bd 0)), (1, .ref (ad 0)), (0, .ref b)] → W p l e room_1 s m #[Value.ref b] below meth co H locs cells slots (lw_Z below #[Value.ref b] s) (F0 m 23 ls []) := by
  intro n
  induction n with
  | zero => intro t h1 h2; omega
  | succ n ih =>
    intro t ht4 hn cells slots hcl hsl G c d f H locs ls hci hmci hP hPm hPo hS hl
    obtain ⟨⟨hx, hb, hr, hml, hown, hts0, hX, hbl, hlocks, hgv⟩, hlt, hE, hT0, hN, hIx, hIm, hax, hbx, hox, hab, hao, hbo⟩ := id X0
    have hbA : ¬ (fun q : Nat => s.heap.size ≤ q) b := Nat.not_le.mpr hbl
    have hnx : ∀ (G : gr_T) (c : Nat → Nat → Int32) (d : mT) (f : Nat → Int64) (H : Heap) (locs : List Loc) (ls : Array Slot), 4 * t + 4 ≤ L → ci G c → mci G d → va_P en.1 vwCl (xw en ad c) H → va_P en.1 vwCl (mw en bd d) H → va_P en.1 vwCl (oW en o f) H → va_S (fun q => s.heap.size ≤ q) s.heap H locs → lv_has ls 7 [(4, .int (nI (4 * t))), (3, .ref o), (2, .ref (bd 0)), (1, .ref (ad 0)), (0, .ref b)] → W p l e room_1 s m #[Value.ref b] below meth co H locs (cells + 4) (slots + 24) (lw_Z below #[Value.ref b] s) (F0 m 739 ls []) := by
      intro G c d f H locs ls h44 hci hmci hP hPm hPo hS hl
      refine lv_iinc (v := nI (4 * (t + 1))) (lv' := [(4, .int (nI (4 * (t + 1)))), (3, .ref o), (2, .ref (bd 0)), (1, .ref (ad 0)), (0, .ref b)]) hx hb dL_law_739 hl (k := 0) rfl (nI_pk (4 * t) 4) (by decide) rfl (fun ls hl => ?_)
      refine lv_goto (tgt := 23) hx hb dL_law_742 (by decide) ?_
      exact ih (t + 1) (by omega) (by omega) (cells + 4) (slots + 24) (by omega) (by omega) G c d f H locs ls hci hmci hP hPm hPo hS hl
    refine lv_iload hx hb dL_law_23 (lv_at hl 0 rfl) ?_
    refine lv_aload_n hx hb dL_law_25 rfl (lv_at hl 4 rfl) ?_
    refine va_slen hx hb hX hbl hbA hS dL_law_26 ?_
    refine lv_iconst (v := 4) hx hb dL_law_27 (by decide) ?_
    refine lv_isub hx hb dL_law_28 ?_
    have hsub : ((Int32.ofNat L) - 4 : Int32).toInt = (L : Int) - 4 := by
      have e1 : (Int32.ofNat L).toInt = (L : Int) := nI_toInt (n := L) (by omega)
      have e2 : (4 : Int32).toInt = 4 := by decide
      rw [i_sub (by rw [e1, e2]; omega) (by rw [e1, e2]; omega), e1, e2]
    have h4t : (nI (4 * t)).toInt = 4 * (t : Int) := by rw [nI_toInt (by omega)]; omega
    refine lv_icmp_gt (tgt := 745) hx hb dL_law_29 (by decide) (fun b29 => ?_) (fun b29 => ?_)
    · refine lv_iconst (v := 1) hx hb dL_law_745 (by decide) ?_
      refine va_forget (fun q hq => hS.2.2 q hq) ?_
      refine W.widen (k := 647528) (n := 7153520) (by omega) (by omega) ?_
      exact lw_ret hx hb hr hlocks dL_law_746
    · have h44 : 4 * t + 4 ≤ L := by
        rcases Nat.lt_or_ge L (4 * t + 4) with q | q
        · exact absurd (i_lt.mpr (by rw [hsub, h4t]; omega)) b29
        · exact q
      refine lv_aload_n hx hb dL_law_32 rfl (lv_at hl 4 rfl) ?_
      refine lv_iload hx hb dL_law_33 (lv_at hl 0 rfl) ?_
      refine va_sld hx hb hX hbl hbA hS (vp_in_nI (n := 4 * t) (by omega) (by omega)) dL_law_35 ?_
      refine lv_bipush (v := 15) hx hb dL_law_36 (by decide) ?_
      refine lv_iand hx hb dL_law_38 ?_
      refine lv_topi (fun w hw => ?_)
      by_cases hlo : w.toInt < 0 ∨ 9 < w.toInt
      · refine lv_tableOut (tgt := 739) hx hb dL_law_39 hlo (by decide) ?_
        refine W.widen (k := cells + 4) (n := slots + 24) (by omega) (by omega) ?_
        exact hnx G c d f H locs ls h44 hci hmci hP hPm hPo hS hl
      · have h1 : ¬ w.toInt < 0 := fun q => hlo (Or.inl q)
        have h2 : ¬ 9 < w.toInt := fun q => hlo (Or.inr q)
        rcases (show w.toInt = 0 ∨ w.toInt = 1 ∨ w.toInt = 2 ∨ w.toInt = 3 ∨ w.toInt = 4 ∨ w.toInt = 5 ∨ w.toInt = 6 ∨ w.toInt = 7 ∨ w.toInt = 8 ∨ w.toInt = 9 by omega) with e9 | e9 | e9 | e9 | e9 | e9 | e9 | e9 | e9 | e9
        · refine lv_tableIn (off := 53) (tgt := 92) hx hb dL_law_39 h1 h2 (by rw [e9]; rfl) (by decide) ?_
          exact law_vertex X0 t h44 hL hci hmci hP hPm hPo hS (by omega) (by omega) (fun G9 c9 d9 f9 H9 locs9 ls9 q1 q2 q3 q4 q5 q6 q7 => hnx G9 c9 d9 f9 H9 locs9 ls9 h44 q1 q2 q3 q4 q5 q6 q7) hl
        · refine lv_tableIn (off := 109) (tgt := 148) hx hb dL_law_39 h1 h2 (by rw [e9]; rfl) (by decide) ?_
          exact law_edge X0 t h44 hL hci hmci hP hPm hPo hS (by omega) (by omega) (fun G9 c9 d9 f9 H9 locs9 ls9 q1 q2 q3 q4 q5 q6 q7 => hnx G9 c9 d9 f9 H9 locs9 ls9 h44 q1 q2 q3 q4 q5 q6 q7) hl
        · refine lv_tableIn (off := 189) (tgt := 228) hx hb dL_law_39 h1 h2 (by rw [e9]; rfl) (by decide) ?_
          exact law_fix X0 t h44 hL hci hmci hP hPm hPo hS (by omega) (by omega) (fun G9 c9 d9 f9 H9 locs9 ls9 q1 q2 q3 q4 q5 q6 q7 => hnx G9 c9 d9 f9 H9 locs9 ls9 h44 q1 q2 q3 q4 q5 q6 q7) hl
        · refine lv_tableIn (off := 237) (tgt := 276) hx hb dL_law_39 h1 h2 (by rw [e9]; rfl) (by decide) ?_
          exact law_fixed X0 t h44 hL hci hmci hP hPm hPo hS (by omega) (by omega) (fun G9 c9 d9 f9 H9 locs9 ls9 q1 q2 q3 q4 q5 q6 q7 => hnx G9 c9 d9 f9 H9 locs9 ls9 h44 q1 q2 q3 q4 q5 q6 q7) hl
        · refine lv_tableIn (off := 293) (tgt := 332) hx hb dL_law_39 h1 h2 (by rw [e9]; rfl) (by decide) ?_
          exact law_credit X0 t h44 hL hci hmci hP hPm hPo hS (by omega) (by omega) (fun G9 c9 d9 f9 H9 locs9 ls9 q1 q2 q3 q4 q5 q6 q7 => hnx G9 c9 d9 f9 H9 locs9 ls9 h44 q1 q2 q3 q4 q5 q6 q7) hl
        · refine lv_tableIn (off := 349) (tgt := 388) hx hb dL_law_39 h1 h2 (by rw [e9]; rfl) (by decide) ?_
          exact law_reaches X0 t h44 hL hci hmci hP hPm hPo hS (by omega) (by omega) (fun G9 c9 d9 f9 H9 locs9 ls9 q1 q2 q3 q4 q5 q6 q7 => hnx G9 c9 d9 f9 H9 locs9 ls9 h44 q1 q2 q3 q4 q5 q6 q7) hl
        · refine lv_tableIn (off := 436) (tgt := 475) hx hb dL_law_39 h1 h2 (by rw [e9]; rfl) (by decide) ?_
          exact law_value X0 t h44 hL hci hmci hP hPm hPo hS (by omega) (by omega) (fun G9 c9 d9 f9 H9 locs9 ls9 q1 q2 q3 q4 q5 q6 q7 => hnx G9 c9 d9 f9 H9 locs9 ls9 h44 q1 q2 q3 q4 q5 q6 q7) hl
        · refine lv_tableIn (off := 520) (tgt := 559) hx hb dL_law_39 h1 h2 (by rw [e9]; rfl) (by decide) ?_
          exact law_best X0 t h44 hL hci hmci hP hPm hPo hS (by omega) (by omega) (fun G9 c9 d9 f9 H9 locs9 ls9 q1 q2 q3 q4 q5 q6 q7 => hnx G9 c9 d9 f9 H9 locs9 ls9 h44 q1 q2 q3 q4 q5 q6 q7) hl
        · refine lv_tableIn (off := 576) (tgt := 615) hx hb dL_law_39 h1 h2 (by rw [e9]; rfl) (by decide) ?_
          exact law_settle X0 t h44 hL hci hmci hP hPm hPo hS (by omega) (by omega) (fun G9 c9 d9 f9 H9 locs9 ls9 q1 q2 q3 q4 q5 q6 q7 => hnx G9 c9 d9 f9 H9 locs9 ls9 h44 q1 q2 q3 q4 q5 q6 q7) hl
        · refine lv_tableIn (off := 632) (tgt := 671) hx hb dL_law_39 h1 h2 (by rw [e9]; rfl) (by decide) ?_
          exact law_walk X0 t h44 hL hci hmci hP hPm hPo hS (by omega) (by omega) (fun G9 c9 d9 f9 H9 locs9 ls9 q1 q2 q3 q4 q5 q6 q7 => hnx G9 c9 d9 f9 H9 locs9 ls9 h44 q1 q2 q3 q4 q5 q6 q7) hl
set_option maxRecDepth 20000 in
theorem nw_in : ∀ w ∈ nw_L, w ∈ lw_tbl := List.forall_mem_cons.mpr ⟨List.mem_of_getElem? (i := 359) rfl, List.forall_mem_cons.mpr ⟨List.mem_of_getElem? (i := 439) rfl, List.forall_mem_cons.mpr ⟨List.mem_of_getElem? (i := 480) rfl, List.forall_mem_cons.mpr ⟨List.mem_of_getElem? (i := 490) rfl, List.forall_mem_cons.mpr ⟨List.mem_of_getElem? (i := 491) rfl, List.forall_mem_cons.mpr ⟨List.mem_of_getElem? (i := 499) rfl, List.forall_mem_cons.mpr ⟨List.mem_of_getElem? (i := 503) rfl, List.forall_mem_cons.mpr ⟨List.mem_of_getElem? (i := 300) rfl, List.forall_mem_cons.mpr ⟨List.mem_of_getElem? (i := 350) rfl, List.forall_mem_cons.mpr ⟨List.mem_of_getElem? (i := 519) rfl, List.forall_mem_cons.mpr ⟨List.mem_of_getElem? (i := 520) rfl, List.forall_mem_cons.mpr ⟨List.mem_of_getElem? (i := 521) rfl, List.forall_mem_cons.mpr ⟨List.mem_of_getElem? (i := 522) rfl, List.forall_mem_cons.mpr ⟨List.mem_of_getElem? (i := 553) rfl, List.forall_mem_cons.mpr ⟨List.mem_of_getElem? (i := 554) rfl, List.forall_mem_cons.mpr ⟨List.mem_of_getElem? (i := 555) rfl, List.forall_mem_cons.mpr ⟨List.mem_of_getElem? (i := 556) rfl, List.forall_mem_cons.mpr ⟨List.mem_of_getElem? (i := 117) rfl, List.forall_mem_cons.mpr ⟨List.mem_of_getElem? (i := 557) rfl, List.forall_mem_cons.mpr ⟨List.mem_of_getElem? (i := 558) rfl, List.forall_mem_cons.mpr ⟨List.mem_of_getElem? (i := 559) rfl, List.forall_mem_cons.mpr ⟨List.mem_of_getElem? (i := 150) rfl, List.forall_mem_cons.mpr ⟨List.mem_of_getElem? (i := 168) rfl, List.forall_mem_cons.mpr ⟨List.mem_of_getElem? (i := 281) rfl, List.forall_mem_cons.mpr ⟨List.mem_of_getElem? (i := 285) rfl, List.forall_mem_cons.mpr ⟨List.mem_of_getElem? (i := 307) rfl, List.forall_mem_cons.mpr ⟨List.mem_of_getElem? (i := 319) rfl, List.forall_mem_cons.mpr ⟨List.mem_of_getElem? (i := 78) rfl, List.forall_mem_cons.mpr ⟨List.mem_of_getElem? (i := 324) rfl, List.forall_mem_cons.mpr ⟨List.mem_of_getElem? (i := 335) rfl, List.forall_mem_cons.mpr ⟨List.mem_of_getElem? (i := 443) rfl, List.forall_mem_cons.mpr ⟨List.mem_of_getElem? (i := 444) rfl, List.forall_mem_cons.mpr ⟨List.mem_of_getElem? (i := 459) rfl, List.forall_mem_cons.mpr ⟨List.mem_of_getElem? (i := 464) rfl, List.forall_mem_cons.mpr ⟨List.mem_of_getElem? (i := 465) rfl, List.forall_mem_cons.mpr ⟨List.mem_of_getElem? (i := 470) rfl, List.forall_mem_cons.mpr ⟨List.mem_of_getElem? (i := 123) rfl, List.forall_mem_cons.mpr ⟨List.mem_of_getElem? (i := 367) rfl, List.forall_mem_cons.mpr ⟨List.mem_of_getElem? (i := 368) rfl, List.forall_mem_cons.mpr ⟨List.mem_of_getElem? (i := 381) rfl, List.forall_mem_cons.mpr ⟨List.mem_of_getElem? (i := 389) rfl, List.forall_mem_cons.mpr ⟨List.mem_of_getElem? (i := 393) rfl, List.forall_mem_cons.mpr ⟨List.mem_of_getElem? (i := 400) rfl, List.forall_mem_cons.mpr ⟨List.mem_of_getElem? (i := 404) rfl, List.forall_mem_cons.mpr ⟨List.mem_of_getElem? (i := 435) rfl, List.forall_mem_cons.mpr ⟨List.mem_of_getElem? (i := 412) rfl, List.forall_mem_cons.mpr ⟨List.mem_of_getElem? (i := 413) rfl, List.forall_mem_cons.mpr ⟨List.mem_of_getElem? (i := 417) rfl, List.forall_mem_cons.mpr ⟨List.mem_of_getElem? (i := 421) rfl, List.forall_mem_cons.mpr ⟨List.mem_of_getElem? (i := 92) rfl, List.forall_mem_cons.mpr ⟨List.mem_of_getElem? (i := 94) rfl, fun _ h => absurd h List.not_mem_nil⟩⟩⟩⟩⟩⟩⟩⟩⟩⟩⟩⟩⟩⟩⟩⟩⟩⟩⟩⟩⟩⟩⟩⟩⟩⟩⟩⟩⟩⟩⟩⟩⟩⟩⟩⟩⟩⟩⟩⟩⟩⟩⟩⟩⟩⟩⟩⟩⟩⟩⟩
set_option maxRecDepth 20000 in
theorem tw_in : ∀ w ∈ tw_L, w ∈ lw_tbl := List.forall_mem_cons.mpr ⟨List.mem_of_getElem? (i := 200) rfl, List.forall_mem_cons.mpr ⟨List.mem_of_getElem? (i := 267) rfl, List.forall_mem_cons.mpr ⟨List.mem_of_getElem? (i := 202) rfl, List.forall_mem_cons.mpr ⟨List.mem_of_getElem? (i := 204) rfl, List.forall_mem_cons.mpr ⟨List.mem_of_getElem? (i := 206) rfl, fun _ h => absurd h List.not_mem_nil⟩⟩⟩⟩⟩
theorem nw_tab : ∀ w ∈ nw_L, w.onTables = true := fun w hw => List.all_eq_true.mp (show nw_L.all (fun w => w.onTables) = true from rfl) w hw
theorem tw_tab : ∀ w ∈ tw_L, w.onTables = true := fun w hw => List.all_eq_true.mp (show tw_L.all (fun w => w.onTables) = true from rfl) w hw
theorem st_R {own tx : String} {k cur : Nat} {A : Array Value} {s : State} (hc : s.vm.findClass own = some cur) (h : (Cond.stringRef own k tx).before A s = true) : ∃ sa, vk_R own k tx sa s := by
  obtain ⟨_, _, _, a, _, _, _, _, _, hev⟩ := Cond.stringRef_spec hc h
  exact ⟨a, vk_R.of h hev⟩
theorem ar_K {ty : FieldType} {A : Array Value} {s : State} (h : (Cond.arrayClass ty).before A s = true) : ∃ c, ArrOfT s c ty ∧ s.vm.findClass ("[" ++ ty.toString) = some c := by
  obtain ⟨c, k, comp, h1, h2, h3⟩ := Cond.arrayClass_spec h
  exact ⟨c, fun n z => ⟨fun k h => (by cases h), k, h2, comp, h3⟩, h1⟩
theorem ar_O {t : FieldType} {s : State} (h : va_AOA t s) : ∃ c, ArrOfT s c (.array t) ∧ s.vm.findClass ("[" ++ (FieldType.array t).toString) = some c := by
  obtain ⟨comp, c, k, h1, h2, h3, h4, h5⟩ := arrayOver_specB h
  exact ⟨c, fun n z => ⟨fun k h => (by cases h), k, h3, comp, h4⟩, h5⟩
abbrev G0 : gr_T := (0, 0, fun _ => 0, fun _ => 0, fun _ => 0, fun _ => 0, fun _ => 0)
theorem G0_ok : gf_ok G0 := ⟨Nat.zero_le _, Nat.zero_le _, fun v hv => absurd hv (Nat.not_lt_zero v), fun v hv => absurd hv (Nat.not_lt_zero v), fun v hv => absurd hv (Nat.not_lt_zero v)⟩
theorem ci_0 : ci G0 c0 := ⟨⟨G0_ok, rfl, rfl, rfl, rfl, rfl, rfl, rfl, fun v _ => ⟨rfl, fun k hk => absurd hk (Nat.not_lt_zero k)⟩⟩, fun v _ => Or.inl rfl⟩
theorem mci_0 : mci G0 d0 := ⟨⟨G0_ok, rfl, rfl, fun v hv => absurd hv (Nat.not_lt_zero v), fun v hv => absurd hv (Nat.not_lt_zero v)⟩, Or.inl rfl⟩
theorem lw_D {en : en_T} {ad bd : Nat → Nat} {c : Nat → Nat → Int32} {d : mT} {o : Nat} {f : Nat → Int64} {A : Nat → Prop} (h : va_D A ((xw en ad c ++ mw en bd d) ++ oW en o f)) :
    xw_I ad ∧ mw_I bd ∧ (∀ k, k < 29 → A (ad k)) ∧ (∀ k, k < 13 → A (bd k)) ∧ A o ∧ (∀ k j, k < 29 → j < 13 → ad k ≠ bd j) ∧ (∀ k, k < 29 → ad k ≠ o) ∧ (∀ j, j < 13 → bd j ≠ o) := by
  have a1 : ∀ k, k < 29 → ∃ x, ((xw en ad c ++ mw en bd d) ++ oW en o f)[k]? = some (ad k, x) := by
    intro k hk
    rcases (show k = 0 ∨ k = 1 ∨ k = 2 ∨ k = 3 ∨ k = 4 ∨ k = 5 ∨ k = 6 ∨ k = 7 ∨ k = 8 ∨ k = 9 ∨ k = 10 ∨ k = 11 ∨ k = 12 ∨ k = 13 ∨ k = 14 ∨ k = 15 ∨ k = 16 ∨ k = 17 ∨ k = 18 ∨ k = 19 ∨ k = 20 ∨ k = 21 ∨ k = 22 ∨ k = 23 ∨ k = 24 ∨ k = 25 ∨ k = 26 ∨ k = 27 ∨ k = 28 by omega) with rfl | rfl | rfl | rfl | rfl | rfl | rfl | rfl | rfl | rfl | rfl | rfl | rfl | rfl | rfl | rfl | rfl | rfl | rfl | rfl | rfl | rfl | rfl | rfl | rfl | rfl | rfl | rfl | rfl <;> exact ⟨_, rfl⟩
  have a2 : ∀ k, k < 13 → ∃ x, ((xw en ad c ++ mw en bd d) ++ oW en o f)[29 + k]? = some (bd k, x) := by
    intro k hk
    rcases (show k = 0 ∨ k = 1 ∨ k = 2 ∨ k = 3 ∨ k = 4 ∨ k = 5 ∨ k = 6 ∨ k = 7 ∨ k = 8 ∨ k = 9 ∨ k = 10 ∨ k = 11 ∨ k = 12 by omega) with rfl | rfl | rfl | rfl | rfl | rfl | rfl | rfl | rfl | rfl | rfl | rfl | rfl <;> exact ⟨_, rfl⟩
  have a3 : ∃ x, ((xw en ad c ++ mw en bd d) ++ oW en o f)[42]? = some (o, x) := ⟨_, rfl⟩
  refine ⟨fun i j hi hj e => ?_, fun i j hi hj e => ?_, fun k hk => ?_, fun k hk => ?_, ?_, fun k j hk hj e => ?_, fun k hk e => ?_, fun k hk e => ?_⟩
  · obtain ⟨_, h1⟩ := a1 i hi
    obtain ⟨_, h2⟩ := a1 j hj
    exact h.1 i j _ _ h1 h2 e
  · obtain ⟨_, h1⟩ := a2 i hi
    obtain ⟨_, h2⟩ := a2 j hj
    have := h.1 _ _ _ _ h1 h2 e
    omega
  · obtain ⟨_, h1⟩ := a1 k hk
    exact h.2 _ _ h1
  · obtain ⟨_, h1⟩ := a2 k hk
    exact h.2 _ _ h1
  · obtain ⟨_, h1⟩ := a3
    exact h.2 _ _ h1
  · obtain ⟨_, h1⟩ := a1 k hk
    obtain ⟨_, h2⟩ := a2 j hj
    have := h.1 _ _ _ _ h1 h2 e
    omega
  · obtain ⟨_, h1⟩ := a1 k hk
    obtain ⟨_, h2⟩ := a3
    have := h.1 _ _ _ _ h1 h2 e
    omega
  · obtain ⟨_, h1⟩ := a2 k hk
    obtain ⟨_, h2⟩ := a3
    have := h.1 _ _ _ _ h1 h2 e
    omega
