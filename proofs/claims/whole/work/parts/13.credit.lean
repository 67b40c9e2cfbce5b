/-! ===== credits: the least numbers that are enough ===== -/
/-- f is enough, on the won vertices -/
def gm_pre (n : Nat) (adj : Nat → List Nat) (tgt : Nat → Nat) (ow : Nat → Bool) (w : Nat → Int) (f : Nat → Int) : Prop :=
  ∀ v, v < n → gm_win adj tgt ow w 8 [] v 0 → 0 ≤ f v ∧ (ow v = true → ∃ e ∈ adj v, gm_win adj tgt ow w 8 [] (tgt e) 0 ∧ f (tgt e) ≤ f v + w e) ∧ (ow v = false → ∀ e ∈ adj v, gm_win adj tgt ow w 8 [] (tgt e) 0 → f (tgt e) ≤ f v + w e)
/-- f is the credit: -1 where there is none -/
def gm_isCr (n : Nat) (adj : Nat → List Nat) (tgt : Nat → Nat) (ow : Nat → Bool) (w : Nat → Int) (f : Nat → Int) : Prop :=
  (∀ v, v < n → ¬ gm_win adj tgt ow w 8 [] v 0 → f v = -1) ∧ gm_pre n adj tgt ow w f ∧ ∀ f', gm_pre n adj tgt ow w f' → ∀ v, v < n → gm_win adj tgt ow w 8 [] v 0 → f v ≤ f' v
theorem gm_isCr_uniq {n : Nat} {adj : Nat → List Nat} {tgt : Nat → Nat} {ow : Nat → Bool} {w f g : Nat → Int} (hf : gm_isCr n adj tgt ow w f) (hg : gm_isCr n adj tgt ow w g) {v : Nat} (hv : v < n) : f v = g v := by
  by_cases h : gm_win adj tgt ow w 8 [] v 0
  · have h1 := hf.2.2 g hg.2.1 v hv h
    have h2 := hg.2.2 f hf.2.1 v hv h
    omega
  · rw [hf.1 v hv h, hg.1 v hv h]
section GC
variable {n : Nat} {adj : Nat → List Nat} {tgt : Nat → Nat} {ow : Nat → Bool} {w : Nat → Int} {M : Int}
/-- there is a bounded one, and with it every won vertex of the other player leads to won ones alone -/
theorem gm_pre_ex (hn : n ≤ 7) (h0 : 0 ≤ M) (hT : ∀ v, v < n → ∀ e ∈ adj v, tgt e < n) (hM : ∀ v, v < n → ∀ e ∈ adj v, -M ≤ w e) :
    ∃ f, gm_pre n adj tgt ow w f ∧ (∀ v, v < n → gm_win adj tgt ow w 8 [] v 0 → f v ≤ ((n : Int) - 1) * M) ∧ ∀ v, v < n → gm_win adj tgt ow w 8 [] v 0 → ow v = false → ∀ e ∈ adj v, gm_win adj tgt ow w 8 [] (tgt e) 0 := by
  obtain ⟨f, hf⟩ := gm_main (ow := ow) hn h0 hT hM
  refine ⟨f, fun v hv hw => ⟨(hf v hv hw).1.1, (hf v hv hw).2.1, fun ho e he _ => ((hf v hv hw).2.2 ho e he).2⟩, fun v hv hw => (hf v hv hw).1.2, fun v hv hw ho e he => ((hf v hv hw).2.2 ho e he).1⟩
theorem gm_isCr_bd (hn : n ≤ 7) (h0 : 0 ≤ M) (hT : ∀ v, v < n → ∀ e ∈ adj v, tgt e < n) (hM : ∀ v, v < n → ∀ e ∈ adj v, -M ≤ w e) {f : Nat → Int} (hf : gm_isCr n adj tgt ow w f) {v : Nat} (hv : v < n) : -1 ≤ f v ∧ f v ≤ ((n : Int) - 1) * M := by
  obtain ⟨g, h1, h2, -⟩ := gm_pre_ex (ow := ow) hn h0 hT hM
  have h3 : 0 ≤ ((n : Int) - 1) * M := Int.mul_nonneg (by omega) h0
  by_cases h : gm_win adj tgt ow w 8 [] v 0
  · have := hf.2.2 g h1 v hv h
    have := h2 v hv h
    have := (hf.2.1 v hv h).1
    omega
  · rw [hf.1 v hv h]
    omega
/-- the smaller of two that are enough is enough -/
theorem gm_pre_min {f g : Nat → Int} (hf : gm_pre n adj tgt ow w f) (hg : gm_pre n adj tgt ow w g) : gm_pre n adj tgt ow w (fun v => min (f v) (g v)) := by
  intro v hv hw
  obtain ⟨a1, a2, a3⟩ := hf v hv hw
  obtain ⟨b1, b2, b3⟩ := hg v hv hw
  refine ⟨by simp only; omega, fun ho => ?_, fun ho e he h => ?_⟩
  · rcases Int.le_total (f v) (g v) with h | h
    · obtain ⟨e, he, h1, h2⟩ := a2 ho
      exact ⟨e, he, h1, by simp only; omega⟩
    · obtain ⟨e, he, h1, h2⟩ := b2 ho
      exact ⟨e, he, h1, by simp only; omega⟩
  · have := a3 ho e he h
    have := b3 ho e he h
    simp only
    omega
/-- numbers that grow from 0, never beyond what is enough, until they are enough -/
theorem gm_cr_up {f : Nat → Int} (h1 : ∀ v, v < n → ¬ gm_win adj tgt ow w 8 [] v 0 → f v = -1) (h2 : gm_pre n adj tgt ow w f) (h3 : ∀ f', gm_pre n adj tgt ow w f' → ∀ v, v < n → gm_win adj tgt ow w 8 [] v 0 → f v ≤ f' v) : gm_isCr n adj tgt ow w f := ⟨h1, h2, h3⟩
/-- what is needed in front of an edge, 1000000 for endless -/
def gm_ce (tgt : Nat → Nat) (w : Nat → Int) (g : Nat → Int) (e : Nat) : Int := if g (tgt e) = 1000000 then 1000000 else max 0 (g (tgt e) - w e)
def gm_nd (adj : Nat → List Nat) (tgt : Nat → Nat) (ow : Nat → Bool) (w : Nat → Int) (g : Nat → Int) (v : Nat) : Int := if ow v = true then gm_mn ((adj v).map (gm_ce tgt w g)) else gm_mx ((adj v).map (gm_ce tgt w g))
def gm_tt (cap : Int) (adj : Nat → List Nat) (tgt : Nat → Nat) (ow : Nat → Bool) (w : Nat → Int) (g : Nat → Int) (v : Nat) : Int := if cap < gm_nd adj tgt ow w g v then 1000000 else gm_nd adj tgt ow w g v
/-- what the numbers of the rounds are -/
def gm_rng (n : Nat) (cap : Int) (g : Nat → Int) : Prop := ∀ v, v < n → 0 ≤ g v ∧ (g v ≤ cap ∨ g v = 1000000)
theorem gm_ce_bd {cap : Int} {g : Nat → Int} {e : Nat} (hc : cap ≤ 100000) (hg : 0 ≤ g (tgt e) ∧ (g (tgt e) ≤ cap ∨ g (tgt e) = 1000000)) (hw : -100000 ≤ w e) : 0 ≤ gm_ce tgt w g e ∧ gm_ce tgt w g e ≤ 1000000 := by
  unfold gm_ce
  split <;> omega
theorem gm_nd_in (hA : ∀ v, v < n → adj v ≠ []) (hT : ∀ v, v < n → ∀ e ∈ adj v, tgt e < n) {cap : Int} (hc : cap ≤ 100000) (hw : ∀ v, v < n → ∀ e ∈ adj v, -100000 ≤ w e) {g : Nat → Int} (hg : gm_rng n cap g) {v : Nat} (hv : v < n) : ∃ e ∈ adj v, gm_nd adj tgt ow w g v = gm_ce tgt w g e := by
  obtain ⟨e0, he0⟩ : ∃ e, e ∈ adj v := List.exists_mem_of_ne_nil _ (hA v hv)
  have hb := gm_ce_bd hc (hg _ (hT v hv e0 he0)) (hw v hv e0 he0)
  unfold gm_nd
  split
  · have hin := gm_mn_in (l := (adj v).map (gm_ce tgt w g)) ⟨_, List.mem_map.mpr ⟨e0, he0, rfl⟩, by omega⟩
    obtain ⟨e, he, h⟩ := List.mem_map.mp hin
    exact ⟨e, he, h.symm⟩
  · have hin := gm_mx_in (l := (adj v).map (gm_ce tgt w g)) ⟨_, List.mem_map.mpr ⟨e0, he0, rfl⟩, by omega⟩
    obtain ⟨e, he, h⟩ := List.mem_map.mp hin
    exact ⟨e, he, h.symm⟩
theorem gm_tt_rng (hA : ∀ v, v < n → adj v ≠ []) (hT : ∀ v, v < n → ∀ e ∈ adj v, tgt e < n) {cap : Int} (hc : cap ≤ 100000) (hw : ∀ v, v < n → ∀ e ∈ adj v, -100000 ≤ w e) {g : Nat → Int} (hg : gm_rng n cap g) : gm_rng n cap (gm_tt cap adj tgt ow w g) := by
  intro v hv
  obtain ⟨e, he, h⟩ := gm_nd_in (ow := ow) hA hT hc hw hg hv
  have hb := gm_ce_bd hc (hg _ (hT v hv e he)) (hw v hv e he)
  unfold gm_tt
  rw [h]
  split <;> omega
theorem gm_nd_mono (hA : ∀ v, v < n → adj v ≠ []) (hT : ∀ v, v < n → ∀ e ∈ adj v, tgt e < n) {cap : Int} (hc : cap ≤ 100000) (hw : ∀ v, v < n → ∀ e ∈ adj v, -100000 ≤ w e) {g g' : Nat → Int} (hg : gm_rng n cap g) (hg' : gm_rng n cap g') (hle : ∀ v, v < n → g v ≤ g' v) {v : Nat} (hv : v < n) : gm_nd adj tgt ow w g v ≤ gm_nd adj tgt ow w g' v := by
  have hce : ∀ e ∈ adj v, gm_ce tgt w g e ≤ gm_ce tgt w g' e := by
    intro e he
    have h1 := hle _ (hT v hv e he)
    have h2 := hg _ (hT v hv e he)
    have h3 := hg' _ (hT v hv e he)
    have h4 := hw v hv e he
    unfold gm_ce
    split <;> split <;> omega
  cases ho : ow v with
  | true =>
    obtain ⟨e, he, h⟩ := gm_nd_in (ow := ow) hA hT hc hw hg' hv
    rw [h]
    refine Int.le_trans ?_ (hce e he)
    unfold gm_nd
    rw [if_pos ho]
    exact gm_mn_mem (List.mem_map.mpr ⟨e, he, rfl⟩)
  | false =>
    obtain ⟨e, he, h⟩ := gm_nd_in (ow := ow) hA hT hc hw hg hv
    rw [h]
    refine Int.le_trans (hce e he) ?_
    unfold gm_nd
    rw [if_neg (by simp [ho])]
    exact gm_mx_mem (List.mem_map.mpr ⟨e, he, rfl⟩)
theorem gm_tt_mono (hA : ∀ v, v < n → adj v ≠ []) (hT : ∀ v, v < n → ∀ e ∈ adj v, tgt e < n) {cap : Int} (hc : cap ≤ 100000) (hw : ∀ v, v < n → ∀ e ∈ adj v, -100000 ≤ w e) {g g' : Nat → Int} (hg : gm_rng n cap g) (hg' : gm_rng n cap g') (hle : ∀ v, v < n → g v ≤ g' v) {v : Nat} (hv : v < n) : gm_tt cap adj tgt ow w g v ≤ gm_tt cap adj tgt ow w g' v := by
  have h1 := gm_nd_mono (ow := ow) hA hT hc hw hg hg' hle hv
  obtain ⟨e, he, h⟩ := gm_nd_in (ow := ow) hA hT hc hw hg hv
  have hb := gm_ce_bd hc (hg _ (hT v hv e he)) (hw v hv e he)
  rw [← h] at hb
  unfold gm_tt
  split <;> split <;> omega
/-- a round keeps below what is enough -/
theorem gm_tt_below (hA : ∀ v, v < n → adj v ≠ []) {cap : Int} (hT : ∀ v, v < n → ∀ e ∈ adj v, tgt e < n) (hwt : ∀ v, v < n → gm_win adj tgt ow w 8 [] v 0 → ow v = false → ∀ e ∈ adj v, gm_win adj tgt ow w 8 [] (tgt e) 0) (hc : cap ≤ 100000) {g f' : Nat → Int} (hf : gm_pre n adj tgt ow w f') (hfc : ∀ v, v < n → gm_win adj tgt ow w 8 [] v 0 → f' v ≤ cap) (hg : ∀ v, v < n → gm_win adj tgt ow w 8 [] v 0 → g v ≤ f' v) {v : Nat} (hv : v < n) (hw : gm_win adj tgt ow w 8 [] v 0) : gm_tt cap adj tgt ow w g v ≤ f' v := by
  have hce : ∀ e ∈ adj v, gm_win adj tgt ow w 8 [] (tgt e) 0 → f' (tgt e) ≤ f' v + w e → gm_ce tgt w g e ≤ f' v := by
    intro e he h1 h2
    have h3 := hg _ (hT v hv e he) h1
    have h4 := hfc _ (hT v hv e he) h1
    have h5 := (hf v hv hw).1
    unfold gm_ce
    split <;> omega
  have hnd : gm_nd adj tgt ow w g v ≤ f' v := by
    unfold gm_nd
    split
    · rename_i ho
      obtain ⟨e, he, h1, h2⟩ := (hf v hv hw).2.1 ho
      exact Int.le_trans (gm_mn_mem (List.mem_map.mpr ⟨e, he, rfl⟩)) (hce e he h1 h2)
    · rename_i ho
      have ho : ow v = false := by cases h : ow v <;> simp_all
      rcases gm_mx_or ((adj v).map (gm_ce tgt w g)) with h | h
      · rw [h]
        have := (hf v hv hw).1
        omega
      · obtain ⟨e, he, h3⟩ := List.mem_map.mp h
        rw [← h3]
        have hwe := hwt v hv hw ho e he
        exact hce e he hwe ((hf v hv hw).2.2 ho e he hwe)
  have := hfc v hv hw
  unfold gm_tt
  split <;> omega
/-- what the rounds end in is the credit -/
theorem gm_cr_model (hn : n ≤ 7) (h0 : 0 ≤ M) (hA : ∀ v, v < n → adj v ≠ []) (hT : ∀ v, v < n → ∀ e ∈ adj v, tgt e < n) (hM : ∀ v, v < n → ∀ e ∈ adj v, -M ≤ w e) {cap : Int} (hcap : cap = (n : Int) * M) (hc : cap ≤ 100000) (hM2 : M ≤ 100000) {g : Nat → Int} (hg : gm_rng n cap g)
    (hfix : ∀ v, v < n → gm_tt cap adj tgt ow w g v = g v) (hleast : ∀ f', gm_pre n adj tgt ow w f' → (∀ v, v < n → gm_win adj tgt ow w 8 [] v 0 → f' v ≤ cap) → ∀ v, v < n → gm_win adj tgt ow w 8 [] v 0 → g v ≤ f' v) :
    gm_isCr n adj tgt ow w (fun v => if g v = 1000000 then -1 else g v) := by
  have hw' : ∀ v, v < n → ∀ e ∈ adj v, -100000 ≤ w e := fun v hv e he => by have := hM v hv e he; omega
  obtain ⟨fm, hm1, hm2, hm3⟩ := gm_pre_ex (ow := ow) hn h0 hT hM
  have hcm : ∀ v, v < n → gm_win adj tgt ow w 8 [] v 0 → fm v ≤ cap := by
    intro v hv hw
    have h1 := hm2 v hv hw
    have h2 : ((n : Int) - 1) * M ≤ (n : Int) * M := Int.mul_le_mul_of_nonneg_right (by omega) h0
    omega
  have hwg : ∀ v, v < n → gm_win adj tgt ow w 8 [] v 0 → g v ≤ cap := fun v hv hw => Int.le_trans (hleast fm hm1 hcm v hv hw) (hcm v hv hw)
  -- the finite ones are enough
  have hown : ∀ v, v < n → g v ≤ cap → ow v = true → ∃ e ∈ adj v, g (tgt e) ≤ cap ∧ g (tgt e) ≤ g v + w e := by
    intro v hv hgv ho
    obtain ⟨e, he, h⟩ := gm_nd_in (ow := ow) hA hT hc hw' hg hv
    have h1 := hfix v hv
    have h2 := hg _ (hT v hv e he)
    refine ⟨e, he, ?_⟩
    unfold gm_tt at h1
    rw [h] at h1
    unfold gm_ce at h1
    split at h1
    · omega
    · split at h1 <;> omega
  have hopp : ∀ v, v < n → g v ≤ cap → ow v = false → ∀ e ∈ adj v, g (tgt e) ≤ cap ∧ g (tgt e) ≤ g v + w e := by
    intro v hv hgv ho e he
    have h1 := hfix v hv
    have h2 := hg _ (hT v hv e he)
    have h3 : gm_ce tgt w g e ≤ gm_nd adj tgt ow w g v := by
      unfold gm_nd
      rw [if_neg (by simp [ho])]
      exact gm_mx_mem (List.mem_map.mpr ⟨e, he, rfl⟩)
    unfold gm_tt at h1
    unfold gm_ce at h3
    split at h1
    · omega
    · split at h3 <;> omega
  have hfin : ∀ v, v < n → g v ≤ cap → gm_win adj tgt ow w 8 [] v 0 := by
    intro v hv hgv
    exact gm_fin_win hn (S := fun v => v < n ∧ g v ≤ cap) (f := g) (fun v h => h.1)
      (fun v h ho => by obtain ⟨e, he, h1, h2⟩ := hown v h.1 h.2 ho; exact ⟨e, he, ⟨hT v h.1 e he, h1⟩, h2⟩)
      (fun v h ho e he => by obtain ⟨h1, h2⟩ := hopp v h.1 h.2 ho e he; exact ⟨⟨hT v h.1 e he, h1⟩, h2⟩)
      8 [] v 0 (by simp) ⟨List.nodup_nil, fun q h => by cases h⟩ ⟨hv, hgv⟩ (fun q h => by cases h)
  have hif : ∀ v, v < n → gm_win adj tgt ow w 8 [] v 0 → (if g v = 1000000 then (-1 : Int) else g v) = g v := by
    intro v hv hw
    have := hwg v hv hw
    rw [if_neg (by omega)]
  refine ⟨fun v hv hw => ?_, fun v hv hw => ⟨?_, fun ho => ?_, fun ho e he hwe => ?_⟩, fun f' hf' v hv hw => ?_⟩
  · rcases (hg v hv).2 with h | h
    · exact absurd (hfin v hv h) hw
    · simp only
      rw [if_pos h]
  · simp only
    rw [hif v hv hw]
    exact (hg v hv).1
  · obtain ⟨e, he, h1, h2⟩ := hown v hv (hwg v hv hw) ho
    have hwe := hfin _ (hT v hv e he) h1
    refine ⟨e, he, hwe, ?_⟩
    simp only
    rw [hif _ (hT v hv e he) hwe, hif v hv hw]
    exact h2
  · obtain ⟨h1, h2⟩ := hopp v hv (hwg v hv hw) ho e he
    simp only
    rw [hif _ (hT v hv e he) hwe, hif v hv hw]
    exact h2
  · simp only
    rw [hif v hv hw]
    have h1 := hleast _ (gm_pre_min hf' hm1) (fun u hu hwu => by have := hcm u hu hwu; omega) v hv hw
    omega
/-- a vertex with a credit has an edge that its credit allows -/
theorem gm_cr_edge {f : Nat → Int} (hf : gm_isCr n adj tgt ow w f) {v : Nat} (hv : v < n) (hw : gm_win adj tgt ow w 8 [] v 0) (ho : ow v = true) : ∃ e ∈ adj v, gm_win adj tgt ow w 8 [] (tgt e) 0 ∧ f (tgt e) ≤ f v + w e := (hf.2.1 v hv hw).2.1 ho
theorem gm_cr_win {f : Nat → Int} (hf : gm_isCr n adj tgt ow w f) {v : Nat} (hv : v < n) : gm_win adj tgt ow w 8 [] v 0 ↔ 0 ≤ f v := by
  constructor
  · intro h
    exact (hf.2.1 v hv h).1
  · intro h
    by_cases hw : gm_win adj tgt ow w 8 [] v 0
    · exact hw
    · have := hf.1 v hv hw
      omega
end GC
