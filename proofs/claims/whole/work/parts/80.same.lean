/-! ===== what the class and the reference answer is the same ===== -/
theorem e_AS : ¬ eA = eS := by decide
theorem e_SA : ¬ eS = eA := by decide
/-- what the law finds behind a call: the same exception, the same answer, one graph -/
def rl (rk : Int32) (u : (Nat → Nat → Int32) × (Nat → Int64)) (d' : mT) (ok : Prop) : Prop := d'.1 0 0 = rk ∧ (rk = 0 → ok) ∧ ∃ G, ci G u.1 ∧ mci G d'
theorem rl_1 {G : gr_T} {c : Nat → Nat → Int32} {u : (Nat → Nat → Int32) × (Nat → Int64)} {d' : mT} {ok : Prop} {k : Int32} (hc : ci G c) (hu : u.1 = c) (ht : d'.1 0 0 = k) (hk : ¬ k = 0) (hm : mci G d') : rl k u d' ok := ⟨ht, fun q => absurd q hk, G, by rw [hu]; exact hc, hm⟩
theorem nI_inj {G : gr_T} (hg : gf_ok G) {i j : Nat} (hi : i < gr_n G) (hj : j < gr_n G) (h : nI i = nI j) : i = j := (nI_eq (by have := hg.1; omega) (by have := hg.1; omega)).mp h
theorem gr_wr_uniq {G : gr_T} {j wh : Nat} {r r2 : Int32} (hw : wh < 4) (h : gr_wr G j wh r) (h2 : gr_wr G j wh r2) : r = r2 := by
  obtain ⟨t, a, p1, p2, p3, p4, p5⟩ := h
  obtain ⟨t2, a2, q1, q2, q3, q4, q5⟩ := h2
  obtain ⟨rfl, rfl⟩ := gr_lp_uniq p1 q1
  rcases (show wh = 0 ∨ wh = 1 ∨ wh = 2 ∨ wh = 3 by omega) with e | e | e | e
  · rw [p2 e, q2 e]
  · rw [p3 e, q3 e]
  · exact i_eq ((p4 e).trans (q4 e).symm)
  · rw [p5 e, q5 e]
theorem rl_vertex {G : gr_T} (hg : gf_ok G) {c : Nat → Nat → Int32} (hc : ci G c) {x : Int32} {rk rb : Int32} {u : (Nat → Nat → Int32) × (Nat → Int64)} {d' : mT} (hw : (fun (r : Int32) (u : (Nat → Nat → Int32) × (Nat → Int64)) => (r = 1 ∧ ((fun E => (E = eA ∧ ¬ (x = 0 ∨ x = 1)) ∨ (E = eS ∧ (x = 0 ∨ x = 1) ∧ ¬ gr_n G < 7)) eA) ∧ u.1 = c) ∨ (r = 2 ∧ ((fun E => (E = eA ∧ ¬ (x = 0 ∨ x = 1)) ∨ (E = eS ∧ (x = 0 ∨ x = 1) ∧ ¬ gr_n G < 7)) eS) ∧ u.1 = c) ∨ (r = 0 ∧ ∃ r0 : Int32, ((fun r c' => (x = 0 ∨ x = 1) ∧ gr_n G < 7 ∧ r = nI (gr_n G) ∧ ci (gr_addV G x) c') r0 u.1) ∧ u.2 0 = r0.toInt64)) rk u) (hm : ((fun r d' => (¬ (x = 0 ∨ x = 1) ∧ d'.1 0 0 = 1 ∧ mci G d') ∨ ((x = 0 ∨ x = 1) ∧ ¬ gr_n G < 7 ∧ d'.1 0 0 = 2 ∧ mci G d') ∨ ((x = 0 ∨ x = 1) ∧ gr_n G < 7 ∧ d'.1 0 0 = 0 ∧ r = nI (gr_n G) ∧ mci (gr_addV G x) d')) rb d')) : rl rk u d' (u.2 0 = rb.toInt64) := by
  rcases hw with ⟨rfl, hx, hu⟩ | ⟨rfl, hx, hu⟩ | ⟨rfl, r0, hp, ho⟩
  · have hna := (hx.resolve_right (fun q => e_AS q.1)).2
    rcases hm with hm | hm | hm
    · exact rl_1 hc hu hm.2.1 (by decide) hm.2.2
    · exact absurd hm.1 hna
    · exact absurd hm.1 hna
  · have hns := (hx.resolve_left (fun q => e_SA q.1)).2
    rcases hm with hm | hm | hm
    · exact absurd hns.1 hm.1
    · exact rl_1 hc hu hm.2.2.1 (by decide) hm.2.2.2
    · exact absurd hm.2.1 hns.2
  · rcases hm with hm | hm | hm
    · exact absurd hp.1 hm.1
    · exact absurd hp.2.1 hm.2.1
    · exact ⟨hm.2.2.1, fun _ => by rw [ho, hp.2.2.1, hm.2.2.2.1], _, hp.2.2.2, hm.2.2.2.2⟩
theorem rl_edge {G : gr_T} (hg : gf_ok G) {c : Nat → Nat → Int32} (hc : ci G c) {a b x : Int32} {rk rb : Int32} {u : (Nat → Nat → Int32) × (Nat → Int64)} {d' : mT} (hw : (fun (r : Int32) (u : (Nat → Nat → Int32) × (Nat → Int64)) => (r = 1 ∧ ((fun E => (E = eA ∧ ¬ ((∃ i, i < gr_n G ∧ a = nI i) ∧ (∃ j, j < gr_n G ∧ b = nI j) ∧ -9 ≤ x.toInt ∧ x.toInt ≤ 9)) ∨ (E = eS ∧ ((∃ i, i < gr_n G ∧ a = nI i) ∧ (∃ j, j < gr_n G ∧ b = nI j) ∧ -9 ≤ x.toInt ∧ x.toInt ≤ 9) ∧ ¬ gr_E G < 24)) eA) ∧ u.1 = c) ∨ (r = 2 ∧ ((fun E => (E = eA ∧ ¬ ((∃ i, i < gr_n G ∧ a = nI i) ∧ (∃ j, j < gr_n G ∧ b = nI j) ∧ -9 ≤ x.toInt ∧ x.toInt ≤ 9)) ∨ (E = eS ∧ ((∃ i, i < gr_n G ∧ a = nI i) ∧ (∃ j, j < gr_n G ∧ b = nI j) ∧ -9 ≤ x.toInt ∧ x.toInt ≤ 9) ∧ ¬ gr_E G < 24)) eS) ∧ u.1 = c) ∨ (r = 0 ∧ ∃ r0 : Int32, ((fun r c' => ((∃ i, i < gr_n G ∧ a = nI i) ∧ (∃ j, j < gr_n G ∧ b = nI j) ∧ -9 ≤ x.toInt ∧ x.toInt ≤ 9) ∧ gr_E G < 24 ∧ r = nI (gr_E G) ∧ ci (gr_addE G a b x) c') r0 u.1) ∧ u.2 0 = r0.toInt64)) rk u) (hm : ((fun r d' => (¬ ((∃ i, i < gr_n G ∧ a = nI i) ∧ (∃ j, j < gr_n G ∧ b = nI j) ∧ -9 ≤ x.toInt ∧ x.toInt ≤ 9) ∧ d'.1 0 0 = 1 ∧ mci G d') ∨ (((∃ i, i < gr_n G ∧ a = nI i) ∧ (∃ j, j < gr_n G ∧ b = nI j) ∧ -9 ≤ x.toInt ∧ x.toInt ≤ 9) ∧ ¬ gr_E G < 24 ∧ d'.1 0 0 = 2 ∧ mci G d') ∨ (((∃ i, i < gr_n G ∧ a = nI i) ∧ (∃ j, j < gr_n G ∧ b = nI j) ∧ -9 ≤ x.toInt ∧ x.toInt ≤ 9) ∧ gr_E G < 24 ∧ d'.1 0 0 = 0 ∧ r = nI (gr_E G) ∧ mci (gr_addE G a b x) d')) rb d')) : rl rk u d' (u.2 0 = rb.toInt64) := by
  rcases hw with ⟨rfl, hx, hu⟩ | ⟨rfl, hx, hu⟩ | ⟨rfl, r0, hp, ho⟩
  · have hna := (hx.resolve_right (fun q => e_AS q.1)).2
    rcases hm with hm | hm | hm
    · exact rl_1 hc hu hm.2.1 (by decide) hm.2.2
    · exact absurd hm.1 hna
    · exact absurd hm.1 hna
  · have hns := (hx.resolve_left (fun q => e_SA q.1)).2
    rcases hm with hm | hm | hm
    · exact absurd hns.1 hm.1
    · exact rl_1 hc hu hm.2.2.1 (by decide) hm.2.2.2
    · exact absurd hm.2.1 hns.2
  · rcases hm with hm | hm | hm
    · exact absurd hp.1 hm.1
    · exact absurd hp.2.1 hm.2.1
    · exact ⟨hm.2.2.1, fun _ => by rw [ho, hp.2.2.1, hm.2.2.2.1], _, hp.2.2.2, hm.2.2.2.2⟩
theorem rl_fix {G : gr_T} (hg : gf_ok G) {c : Nat → Nat → Int32} (hc : ci G c) {v x : Int32} {rk : Int32} {u : (Nat → Nat → Int32) × (Nat → Int64)} {d' : mT} (hw : (fun (r : Int32) (u : (Nat → Nat → Int32) × (Nat → Int64)) => (r = 1 ∧ ((fun E => E = eA ∧ ¬ ((∃ j, j < gr_n G ∧ v = nI j) ∧ (x = -1 ∨ ∃ k, k < gr_E G ∧ x = nI k ∧ gr_src G k = v))) eA) ∧ u.1 = c) ∨ (r = 2 ∧ ((fun E => E = eA ∧ ¬ ((∃ j, j < gr_n G ∧ v = nI j) ∧ (x = -1 ∨ ∃ k, k < gr_E G ∧ x = nI k ∧ gr_src G k = v))) eS) ∧ u.1 = c) ∨ (r = 0 ∧ ((fun c' => ((∃ j, j < gr_n G ∧ v = nI j) ∧ (x = -1 ∨ ∃ k, k < gr_E G ∧ x = nI k ∧ gr_src G k = v)) ∧ ∀ j, j < gr_n G → v = nI j → ci (gr_setF G j x) c') u.1))) rk u) (hm : ((fun d' => (¬ ((∃ j, j < gr_n G ∧ v = nI j) ∧ (x = -1 ∨ ∃ k, k < gr_E G ∧ x = nI k ∧ gr_src G k = v)) ∧ d'.1 0 0 = 1 ∧ mci G d') ∨ (((∃ j, j < gr_n G ∧ v = nI j) ∧ (x = -1 ∨ ∃ k, k < gr_E G ∧ x = nI k ∧ gr_src G k = v)) ∧ d'.1 0 0 = 0 ∧ ∀ j, j < gr_n G → v = nI j → mci (gr_setF G j x) d')) d')) : rl rk u d' (True) := by
  rcases hw with ⟨rfl, hx, hu⟩ | ⟨rfl, hx, hu⟩ | ⟨rfl, hp⟩
  · have hna := hx.2
    rcases hm with hm | hm
    · exact rl_1 hc hu hm.2.1 (by decide) hm.2.2
    · exact absurd hm.1 hna
  · exact absurd hx.1 e_SA
  · rcases hm with hm | hm
    · exact absurd hp.1 hm.1
    · exact (by obtain ⟨j, hj, e⟩ := hp.1.1; exact ⟨hm.2.1, fun _ => trivial, _, hp.2 j hj e, hm.2.2 j hj e⟩)
theorem rl_fixed {G : gr_T} (hg : gf_ok G) {c : Nat → Nat → Int32} (hc : ci G c) {v : Int32} {rk rb : Int32} {u : (Nat → Nat → Int32) × (Nat → Int64)} {d' : mT} (hw : (fun (r : Int32) (u : (Nat → Nat → Int32) × (Nat → Int64)) => (r = 1 ∧ ((fun E => E = eA ∧ ¬ (∃ j, j < gr_n G ∧ v = nI j)) eA) ∧ u.1 = c) ∨ (r = 2 ∧ ((fun E => E = eA ∧ ¬ (∃ j, j < gr_n G ∧ v = nI j)) eS) ∧ u.1 = c) ∨ (r = 0 ∧ ∃ r0 : Int32, ((fun r c' => (∃ j, j < gr_n G ∧ v = nI j ∧ r = gr_fx G j) ∧ ci G c') r0 u.1) ∧ u.2 0 = r0.toInt64)) rk u) (hm : ((fun r d' => (¬ (∃ j, j < gr_n G ∧ v = nI j) ∧ d'.1 0 0 = 1 ∧ mci G d') ∨ ((∃ j, j < gr_n G ∧ v = nI j ∧ r = gr_fx G j) ∧ d'.1 0 0 = 0 ∧ mci G d')) rb d')) : rl rk u d' (u.2 0 = rb.toInt64) := by
  rcases hw with ⟨rfl, hx, hu⟩ | ⟨rfl, hx, hu⟩ | ⟨rfl, r0, hp, ho⟩
  · have hna := hx.2
    rcases hm with hm | hm
    · exact rl_1 hc hu hm.2.1 (by decide) hm.2.2
    · exact absurd (by obtain ⟨j, hj, e, -⟩ := hm.1; exact ⟨j, hj, e⟩) hna
  · exact absurd hx.1 e_SA
  · rcases hm with hm | hm
    · exact absurd (by obtain ⟨j, hj, e, -⟩ := hp.1; exact ⟨j, hj, e⟩) hm.1
    · exact (by obtain ⟨⟨j, hj, e, hr⟩, hc2⟩ := hp; obtain ⟨⟨i, hi, e2, hr2⟩, ht, hm2⟩ := hm; obtain rfl := nI_inj hg hj hi (e.symm.trans e2); exact ⟨ht, fun _ => by rw [ho, hr, hr2], _, hc2, hm2⟩)
theorem rl_credit {G : gr_T} (hg : gf_ok G) {c : Nat → Nat → Int32} (hc : ci G c) {v : Int32} {rk rb : Int32} {u : (Nat → Nat → Int32) × (Nat → Int64)} {d' : mT} (hw : (fun (r : Int32) (u : (Nat → Nat → Int32) × (Nat → Int64)) => (r = 1 ∧ ((fun E => (E = eA ∧ ¬ (∃ j, j < gr_n G ∧ v = nI j)) ∨ (E = eS ∧ (∃ j, j < gr_n G ∧ v = nI j) ∧ ¬ gr_cpl G)) eA) ∧ u.1 = c) ∨ (r = 2 ∧ ((fun E => (E = eA ∧ ¬ (∃ j, j < gr_n G ∧ v = nI j)) ∨ (E = eS ∧ (∃ j, j < gr_n G ∧ v = nI j) ∧ ¬ gr_cpl G)) eS) ∧ u.1 = c) ∨ (r = 0 ∧ ∃ r0 : Int32, ((fun r c' => gr_cpl G ∧ (∃ j, j < gr_n G ∧ v = nI j ∧ r.toInt = cr_f G 0 0 1 j) ∧ ci G c') r0 u.1) ∧ u.2 0 = r0.toInt64)) rk u) (hm : ((fun r d' => (¬ (∃ j, j < gr_n G ∧ v = nI j) ∧ d'.1 0 0 = 1 ∧ mci G d') ∨ ((∃ j, j < gr_n G ∧ v = nI j) ∧ ¬ gr_cpl G ∧ d'.1 0 0 = 2 ∧ mci G d') ∨ (gr_cpl G ∧ (∃ j, j < gr_n G ∧ v = nI j ∧ r.toInt = cr_f G 0 0 1 j) ∧ d'.1 0 0 = 0 ∧ mci G d')) rb d')) : rl rk u d' (u.2 0 = rb.toInt64) := by
  rcases hw with ⟨rfl, hx, hu⟩ | ⟨rfl, hx, hu⟩ | ⟨rfl, r0, hp, ho⟩
  · have hna := (hx.resolve_right (fun q => e_AS q.1)).2
    rcases hm with hm | hm | hm
    · exact rl_1 hc hu hm.2.1 (by decide) hm.2.2
    · exact absurd hm.1 hna
    · exact absurd (by obtain ⟨j, hj, e, -⟩ := hm.2.1; exact ⟨j, hj, e⟩) hna
  · have hns := (hx.resolve_left (fun q => e_SA q.1)).2
    rcases hm with hm | hm | hm
    · exact absurd hns.1 hm.1
    · exact rl_1 hc hu hm.2.2.1 (by decide) hm.2.2.2
    · exact absurd hm.1 hns.2
  · rcases hm with hm | hm | hm
    · exact absurd (by obtain ⟨j, hj, e, -⟩ := hp.2.1; exact ⟨j, hj, e⟩) hm.1
    · exact absurd hp.1 hm.2.1
    · exact (by obtain ⟨-, ⟨j, hj, e, hr⟩, hc2⟩ := hp; obtain ⟨-, ⟨i, hi, e2, hr2⟩, ht, hm2⟩ := hm; obtain rfl := nI_inj hg hj hi (e.symm.trans e2); exact ⟨ht, fun _ => by rw [ho, i_eq (hr.trans hr2.symm)], _, hc2, hm2⟩)
theorem rl_reaches {G : gr_T} (hg : gf_ok G) {c : Nat → Nat → Int32} (hc : ci G c) {v pI qI : Int32} {rk rb : Int32} {u : (Nat → Nat → Int32) × (Nat → Int64)} {d' : mT} (hw : (fun (r : Int32) (u : (Nat → Nat → Int32) × (Nat → Int64)) => (r = 1 ∧ ((fun E => (E = eA ∧ ¬ ((∃ j, j < gr_n G ∧ v = nI j) ∧ (-99 ≤ pI.toInt ∧ pI.toInt ≤ 99) ∧ 1 ≤ qI.toInt ∧ qI.toInt ≤ 9)) ∨ (E = eS ∧ ((∃ j, j < gr_n G ∧ v = nI j) ∧ (-99 ≤ pI.toInt ∧ pI.toInt ≤ 99) ∧ 1 ≤ qI.toInt ∧ qI.toInt ≤ 9) ∧ ¬ gr_cpl G)) eA) ∧ u.1 = c) ∨ (r = 2 ∧ ((fun E => (E = eA ∧ ¬ ((∃ j, j < gr_n G ∧ v = nI j) ∧ (-99 ≤ pI.toInt ∧ pI.toInt ≤ 99) ∧ 1 ≤ qI.toInt ∧ qI.toInt ≤ 9)) ∨ (E = eS ∧ ((∃ j, j < gr_n G ∧ v = nI j) ∧ (-99 ≤ pI.toInt ∧ pI.toInt ≤ 99) ∧ 1 ≤ qI.toInt ∧ qI.toInt ≤ 9) ∧ ¬ gr_cpl G)) eS) ∧ u.1 = c) ∨ (r = 0 ∧ ∃ r0 : Int32, ((fun r c' => gr_cpl G ∧ ((∃ j, j < gr_n G ∧ v = nI j) ∧ (-99 ≤ pI.toInt ∧ pI.toInt ≤ 99) ∧ 1 ≤ qI.toInt ∧ qI.toInt ≤ 9) ∧ (∃ j, j < gr_n G ∧ v = nI j ∧ r = if pI.toInt * 420 ≤ vl_F G j * qI.toInt then 1 else 0) ∧ ci G c') r0 u.1) ∧ (r0 = 0 → u.2 0 = 0) ∧ (¬ r0 = 0 → u.2 0 = 1))) rk u) (hm : ((fun r d' => (¬ ((∃ j, j < gr_n G ∧ v = nI j) ∧ (-99 ≤ pI.toInt ∧ pI.toInt ≤ 99) ∧ 1 ≤ qI.toInt ∧ qI.toInt ≤ 9) ∧ d'.1 0 0 = 1 ∧ mci G d') ∨ (((∃ j, j < gr_n G ∧ v = nI j) ∧ (-99 ≤ pI.toInt ∧ pI.toInt ≤ 99) ∧ 1 ≤ qI.toInt ∧ qI.toInt ≤ 9) ∧ ¬ gr_cpl G ∧ d'.1 0 0 = 2 ∧ mci G d') ∨ (gr_cpl G ∧ ((∃ j, j < gr_n G ∧ v = nI j) ∧ (-99 ≤ pI.toInt ∧ pI.toInt ≤ 99) ∧ 1 ≤ qI.toInt ∧ qI.toInt ≤ 9) ∧ (∃ j, j < gr_n G ∧ v = nI j ∧ r = if pI.toInt * 420 ≤ vl_F G j * qI.toInt then 1 else 0) ∧ d'.1 0 0 = 0 ∧ mci G d')) rb d')) : rl rk u d' (((rb = 0 → u.2 0 = 0) ∧ (¬ rb = 0 → u.2 0 = 1))) := by
  rcases hw with ⟨rfl, hx, hu⟩ | ⟨rfl, hx, hu⟩ | ⟨rfl, r0, hp, ho⟩
  · have hna := (hx.resolve_right (fun q => e_AS q.1)).2
    rcases hm with hm | hm | hm
    · exact rl_1 hc hu hm.2.1 (by decide) hm.2.2
    · exact absurd hm.1 hna
    · exact absurd hm.2.1 hna
  · have hns := (hx.resolve_left (fun q => e_SA q.1)).2
    rcases hm with hm | hm | hm
    · exact absurd hns.1 hm.1
    · exact rl_1 hc hu hm.2.2.1 (by decide) hm.2.2.2
    · exact absurd hm.1 hns.2
  · rcases hm with hm | hm | hm
    · exact absurd hp.2.1 hm.1
    · exact absurd hp.1 hm.2.1
    · exact (by obtain ⟨-, -, ⟨j, hj, e, hr⟩, hc2⟩ := hp; obtain ⟨-, -, ⟨i, hi, e2, hr2⟩, ht, hm2⟩ := hm; obtain rfl := nI_inj hg hj hi (e.symm.trans e2); exact ⟨ht, fun _ => by rw [show rb = r0 from hr2.trans hr.symm]; exact ho, _, hc2, hm2⟩)
theorem rl_value {G : gr_T} (hg : gf_ok G) {c : Nat → Nat → Int32} (hc : ci G c) {v x : Int32} {rk rb : Int32} {u : (Nat → Nat → Int32) × (Nat → Int64)} {d' : mT} (hw : (fun (r : Int32) (u : (Nat → Nat → Int32) × (Nat → Int64)) => (r = 1 ∧ ((fun E => (E = eA ∧ ¬ (∃ j, j < gr_n G ∧ v = nI j)) ∨ (E = eS ∧ (∃ j, j < gr_n G ∧ v = nI j) ∧ ¬ gr_cpl G)) eA) ∧ u.1 = c) ∨ (r = 2 ∧ ((fun E => (E = eA ∧ ¬ (∃ j, j < gr_n G ∧ v = nI j)) ∨ (E = eS ∧ (∃ j, j < gr_n G ∧ v = nI j) ∧ ¬ gr_cpl G)) eS) ∧ u.1 = c) ∨ (r = 0 ∧ ∃ r0 : Int32, ((fun r c' => gr_cpl G ∧ (∃ j, j < gr_n G ∧ v = nI j ∧ (¬ x = 0 → r = nI (vl_q (vl_F G j))) ∧ (x = 0 → r.toInt = vl_t (vl_F G j))) ∧ ci G c') r0 u.1) ∧ u.2 0 = r0.toInt64)) rk u) (hm : ((fun r d' => (¬ (∃ j, j < gr_n G ∧ v = nI j) ∧ d'.1 0 0 = 1 ∧ mci G d') ∨ ((∃ j, j < gr_n G ∧ v = nI j) ∧ ¬ gr_cpl G ∧ d'.1 0 0 = 2 ∧ mci G d') ∨ (gr_cpl G ∧ (∃ j, j < gr_n G ∧ v = nI j ∧ (¬ x = 0 → r = nI (vl_q (vl_F G j))) ∧ (x = 0 → r.toInt = vl_t (vl_F G j))) ∧ d'.1 0 0 = 0 ∧ mci G d')) rb d')) : rl rk u d' (u.2 0 = rb.toInt64) := by
  rcases hw with ⟨rfl, hx, hu⟩ | ⟨rfl, hx, hu⟩ | ⟨rfl, r0, hp, ho⟩
  · have hna := (hx.resolve_right (fun q => e_AS q.1)).2
    rcases hm with hm | hm | hm
    · exact rl_1 hc hu hm.2.1 (by decide) hm.2.2
    · exact absurd hm.1 hna
    · exact absurd (by obtain ⟨j, hj, e, -⟩ := hm.2.1; exact ⟨j, hj, e⟩) hna
  · have hns := (hx.resolve_left (fun q => e_SA q.1)).2
    rcases hm with hm | hm | hm
    · exact absurd hns.1 hm.1
    · exact rl_1 hc hu hm.2.2.1 (by decide) hm.2.2.2
    · exact absurd hm.1 hns.2
  · rcases hm with hm | hm | hm
    · exact absurd (by obtain ⟨j, hj, e, -⟩ := hp.2.1; exact ⟨j, hj, e⟩) hm.1
    · exact absurd hp.1 hm.2.1
    · exact (by obtain ⟨-, ⟨j, hj, e, hr, hq⟩, hc2⟩ := hp; obtain ⟨-, ⟨i, hi, e2, hr2, hq2⟩, ht, hm2⟩ := hm; obtain rfl := nI_inj hg hj hi (e.symm.trans e2); exact ⟨ht, fun _ => by rw [ho]; by_cases hx0 : x = 0; rw [i_eq ((hq hx0).trans (hq2 hx0).symm)]; rw [hr hx0, hr2 hx0], _, hc2, hm2⟩)
theorem rl_best {G : gr_T} (hg : gf_ok G) {c : Nat → Nat → Int32} (hc : ci G c) {v : Int32} {rk rb : Int32} {u : (Nat → Nat → Int32) × (Nat → Int64)} {d' : mT} (hw : (fun (r : Int32) (u : (Nat → Nat → Int32) × (Nat → Int64)) => (r = 1 ∧ ((fun E => (E = eA ∧ ¬ (∃ j, j < gr_n G ∧ v = nI j)) ∨ (E = eS ∧ (∃ j, j < gr_n G ∧ v = nI j) ∧ ¬ gr_cpl G)) eA) ∧ u.1 = c) ∨ (r = 2 ∧ ((fun E => (E = eA ∧ ¬ (∃ j, j < gr_n G ∧ v = nI j)) ∨ (E = eS ∧ (∃ j, j < gr_n G ∧ v = nI j) ∧ ¬ gr_cpl G)) eS) ∧ u.1 = c) ∨ (r = 0 ∧ ∃ r0 : Int32, ((fun r c' => gr_cpl G ∧ (∃ j, j < gr_n G ∧ v = nI j ∧ r = nI (gr_best G j)) ∧ ci G c') r0 u.1) ∧ u.2 0 = r0.toInt64)) rk u) (hm : ((fun r d' => (¬ (∃ j, j < gr_n G ∧ v = nI j) ∧ d'.1 0 0 = 1 ∧ mci G d') ∨ ((∃ j, j < gr_n G ∧ v = nI j) ∧ ¬ gr_cpl G ∧ d'.1 0 0 = 2 ∧ mci G d') ∨ (gr_cpl G ∧ (∃ j, j < gr_n G ∧ v = nI j ∧ r = nI (gr_best G j)) ∧ d'.1 0 0 = 0 ∧ mci G d')) rb d')) : rl rk u d' (u.2 0 = rb.toInt64) := by
  rcases hw with ⟨rfl, hx, hu⟩ | ⟨rfl, hx, hu⟩ | ⟨rfl, r0, hp, ho⟩
  · have hna := (hx.resolve_right (fun q => e_AS q.1)).2
    rcases hm with hm | hm | hm
    · exact rl_1 hc hu hm.2.1 (by decide) hm.2.2
    · exact absurd hm.1 hna
    · exact absurd (by obtain ⟨j, hj, e, -⟩ := hm.2.1; exact ⟨j, hj, e⟩) hna
  · have hns := (hx.resolve_left (fun q => e_SA q.1)).2
    rcases hm with hm | hm | hm
    · exact absurd hns.1 hm.1
    · exact rl_1 hc hu hm.2.2.1 (by decide) hm.2.2.2
    · exact absurd hm.1 hns.2
  · rcases hm with hm | hm | hm
    · exact absurd (by obtain ⟨j, hj, e, -⟩ := hp.2.1; exact ⟨j, hj, e⟩) hm.1
    · exact absurd hp.1 hm.2.1
    · exact (by obtain ⟨-, ⟨j, hj, e, hr⟩, hc2⟩ := hp; obtain ⟨-, ⟨i, hi, e2, hr2⟩, ht, hm2⟩ := hm; obtain rfl := nI_inj hg hj hi (e.symm.trans e2); exact ⟨ht, fun _ => by rw [ho, hr, hr2], _, hc2, hm2⟩)
theorem rl_settle {G : gr_T} (hg : gf_ok G) {c : Nat → Nat → Int32} (hc : ci G c) {x : Int32} {rk rb : Int32} {u : (Nat → Nat → Int32) × (Nat → Int64)} {d' : mT} (hw : (fun (r : Int32) (u : (Nat → Nat → Int32) × (Nat → Int64)) => (r = 1 ∧ ((fun E => (E = eA ∧ ¬ (x = 0 ∨ x = 1)) ∨ (E = eS ∧ (x = 0 ∨ x = 1) ∧ ¬ gr_cpl G)) eA) ∧ u.1 = c) ∨ (r = 2 ∧ ((fun E => (E = eA ∧ ¬ (x = 0 ∨ x = 1)) ∨ (E = eS ∧ (x = 0 ∨ x = 1) ∧ ¬ gr_cpl G)) eS) ∧ u.1 = c) ∨ (r = 0 ∧ ∃ r0 : Int32, ((fun r c' => gr_cpl G ∧ (∃ pl, pl < 2 ∧ x = nI pl ∧ r = nI (gr_cn G pl 7) ∧ ci (gr_st G pl 7) c')) r0 u.1) ∧ u.2 0 = r0.toInt64)) rk u) (hm : ((fun r d' => (¬ (x = 0 ∨ x = 1) ∧ d'.1 0 0 = 1 ∧ mci G d') ∨ ((x = 0 ∨ x = 1) ∧ ¬ gr_cpl G ∧ d'.1 0 0 = 2 ∧ mci G d') ∨ (gr_cpl G ∧ ∃ pl, pl < 2 ∧ x = nI pl ∧ r = nI (gr_cn G pl 7) ∧ d'.1 0 0 = 0 ∧ mci (gr_st G pl 7) d')) rb d')) : rl rk u d' (u.2 0 = rb.toInt64) := by
  rcases hw with ⟨rfl, hx, hu⟩ | ⟨rfl, hx, hu⟩ | ⟨rfl, r0, hp, ho⟩
  · have hna := (hx.resolve_right (fun q => e_AS q.1)).2
    rcases hm with hm | hm | hm
    · exact rl_1 hc hu hm.2.1 (by decide) hm.2.2
    · exact absurd hm.1 hna
    · exact absurd (by obtain ⟨-, j, hj, e, -⟩ := hm; rcases (show j = 0 ∨ j = 1 by omega) with rfl | rfl; exact Or.inl e; exact Or.inr e) hna
  · have hns := (hx.resolve_left (fun q => e_SA q.1)).2
    rcases hm with hm | hm | hm
    · exact absurd hns.1 hm.1
    · exact rl_1 hc hu hm.2.2.1 (by decide) hm.2.2.2
    · exact absurd hm.1 hns.2
  · rcases hm with hm | hm | hm
    · exact absurd (by obtain ⟨-, j, hj, e, -⟩ := hp; rcases (show j = 0 ∨ j = 1 by omega) with rfl | rfl; exact Or.inl e; exact Or.inr e) hm.1
    · exact absurd hp.1 hm.2.1
    · exact (by obtain ⟨-, j, hj, e, hr, hc2⟩ := hp; obtain ⟨-, i, hi, e2, hr2, ht, hm2⟩ := hm; obtain rfl : j = i := (nI_eq (by omega) (by omega)).mp (e.symm.trans e2); exact ⟨ht, fun _ => by rw [ho, hr, hr2], _, hc2, hm2⟩)
theorem rl_walk {G : gr_T} (hg : gf_ok G) {c : Nat → Nat → Int32} (hc : ci G c) {v x : Int32} {rk rb : Int32} {u : (Nat → Nat → Int32) × (Nat → Int64)} {d' : mT} (hw : (fun (r : Int32) (u : (Nat → Nat → Int32) × (Nat → Int64)) => (r = 1 ∧ ((fun E => (E = eA ∧ ¬ ((∃ j, j < gr_n G ∧ v = nI j) ∧ ∃ wh, wh < 4 ∧ x = nI wh)) ∨ (E = eS ∧ ((∃ j, j < gr_n G ∧ v = nI j) ∧ ∃ wh, wh < 4 ∧ x = nI wh) ∧ ¬ gr_cpl G)) eA) ∧ u.1 = c) ∨ (r = 2 ∧ ((fun E => (E = eA ∧ ¬ ((∃ j, j < gr_n G ∧ v = nI j) ∧ ∃ wh, wh < 4 ∧ x = nI wh)) ∨ (E = eS ∧ ((∃ j, j < gr_n G ∧ v = nI j) ∧ ∃ wh, wh < 4 ∧ x = nI wh) ∧ ¬ gr_cpl G)) eS) ∧ u.1 = c) ∨ (r = 0 ∧ ∃ r0 : Int32, ((fun r c' => gr_cpl G ∧ (∃ j wh, j < gr_n G ∧ v = nI j ∧ wh < 4 ∧ x = nI wh ∧ gr_wr G j wh r) ∧ ci G c') r0 u.1) ∧ u.2 0 = r0.toInt64)) rk u) (hm : ((fun r d' => (¬ ((∃ j, j < gr_n G ∧ v = nI j) ∧ ∃ wh, wh < 4 ∧ x = nI wh) ∧ d'.1 0 0 = 1 ∧ mci G d') ∨ (((∃ j, j < gr_n G ∧ v = nI j) ∧ ∃ wh, wh < 4 ∧ x = nI wh) ∧ ¬ gr_cpl G ∧ d'.1 0 0 = 2 ∧ mci G d') ∨ (gr_cpl G ∧ (∃ j wh, j < gr_n G ∧ v = nI j ∧ wh < 4 ∧ x = nI wh ∧ gr_wr G j wh r) ∧ d'.1 0 0 = 0 ∧ mci G d')) rb d')) : rl rk u d' (u.2 0 = rb.toInt64) := by
  rcases hw with ⟨rfl, hx, hu⟩ | ⟨rfl, hx, hu⟩ | ⟨rfl, r0, hp, ho⟩
  · have hna := (hx.resolve_right (fun q => e_AS q.1)).2
    rcases hm with hm | hm | hm
    · exact rl_1 hc hu hm.2.1 (by decide) hm.2.2
    · exact absurd hm.1 hna
    · exact absurd (by obtain ⟨j, wh, hj, e, hw9, e9, -⟩ := hm.2.1; exact ⟨⟨j, hj, e⟩, wh, hw9, e9⟩) hna
  · have hns := (hx.resolve_left (fun q => e_SA q.1)).2
    rcases hm with hm | hm | hm
    · exact absurd hns.1 hm.1
    · exact rl_1 hc hu hm.2.2.1 (by decide) hm.2.2.2
    · exact absurd hm.1 hns.2
  · rcases hm with hm | hm | hm
    · exact absurd (by obtain ⟨j, wh, hj, e, hw9, e9, -⟩ := hp.2.1; exact ⟨⟨j, hj, e⟩, wh, hw9, e9⟩) hm.1
    · exact absurd hp.1 hm.2.1
    · exact (by obtain ⟨-, ⟨j, wh, hj, e, hw9, e9, hr⟩, hc2⟩ := hp; obtain ⟨-, ⟨i, wh2, hi, e2, hw2, e8, hr2⟩, ht, hm2⟩ := hm; obtain rfl := nI_inj hg hj hi (e.symm.trans e2); obtain rfl : wh = wh2 := (nI_eq (by omega) (by omega)).mp (e9.symm.trans e8); exact ⟨ht, fun _ => by rw [ho, gr_wr_uniq hw9 hr hr2], _, hc2, hm2⟩)
