/-! ===== credits: what the sweeps keep ===== -/
/-- the least (sp) or the most that is enough for one of the edges L; -1 if none leads to a credit -/
def en_P (L : List Nat) (tgt : Nat → Nat) (f g : Nat → Int) (sp : Bool) (r : Int) : Prop :=
  (r = -1 ∧ ∀ x ∈ L, f (tgt x) = -1) ∨ (∃ x ∈ L, f (tgt x) ≠ -1 ∧ r = max 0 (f (tgt x) - g x) ∧ ∀ y ∈ L, f (tgt y) ≠ -1 → (sp = true → r ≤ max 0 (f (tgt y) - g y)) ∧ (sp = false → max 0 (f (tgt y) - g y) ≤ r))
theorem en_nil {tgt : Nat → Nat} {f g : Nat → Int} {sp : Bool} : en_P [] tgt f g sp (-1) := Or.inl ⟨rfl, fun x h => by cases h⟩
theorem en_pos {L : List Nat} {tgt : Nat → Nat} {f g : Nat → Int} {sp : Bool} {r : Int} (h : en_P L tgt f g sp r) : -1 ≤ r := by
  rcases h with ⟨h, -⟩ | ⟨x, -, -, h, -⟩ <;> omega
theorem en_take {L : List Nat} {tgt : Nat → Nat} {f g : Nat → Int} {sp : Bool} {r b : Int} {x : Nat} (h : en_P L tgt f g sp r) (hb : b = if f (tgt x) = -1 then -1 else max 0 (f (tgt x) - g x)) (h1 : b ≠ -1) (h2 : r = -1 ∨ ((sp = true → b ≤ r) ∧ (sp = false → r ≤ b))) : en_P (L ++ [x]) tgt f g sp b := by
  have hx : f (tgt x) ≠ -1 := fun q => h1 (by rw [hb, if_pos q])
  rw [if_neg hx] at hb
  refine Or.inr ⟨x, by simp, hx, hb, fun y hy hfy => ?_⟩
  rcases List.mem_append.mp hy with hy | hy
  · rcases h with ⟨hr, hall⟩ | ⟨z, hz, hfz, hr, hall⟩
    · exact absurd (hall y hy) hfy
    · have h3 := hall y hy hfy
      have h4 : r ≠ -1 := by omega
      have h5 := h2.resolve_left h4
      exact ⟨fun q => by have := h5.1 q; have := h3.1 q; omega, fun q => by have := h5.2 q; have := h3.2 q; omega⟩
  · rw [List.mem_singleton.mp hy]
    exact ⟨fun _ => by omega, fun _ => by omega⟩
theorem en_keep {L : List Nat} {tgt : Nat → Nat} {f g : Nat → Int} {sp : Bool} {r b : Int} {x : Nat} (h : en_P L tgt f g sp r) (hb : b = if f (tgt x) = -1 then -1 else max 0 (f (tgt x) - g x)) (h1 : b = -1 ∨ (r ≠ -1 ∧ (sp = true → r ≤ b) ∧ (sp = false → b ≤ r))) : en_P (L ++ [x]) tgt f g sp r := by
  by_cases hx : f (tgt x) = -1
  · rcases h with ⟨hr, hall⟩ | ⟨z, hz, hfz, hr, hall⟩
    · refine Or.inl ⟨hr, fun y hy => ?_⟩
      rcases List.mem_append.mp hy with hy | hy
      · exact hall y hy
      · rw [List.mem_singleton.mp hy]; exact hx
    · refine Or.inr ⟨z, List.mem_append_left _ hz, hfz, hr, fun y hy hfy => ?_⟩
      rcases List.mem_append.mp hy with hy | hy
      · exact hall y hy hfy
      · rw [List.mem_singleton.mp hy] at hfy; exact absurd hx hfy
  · rw [if_neg hx] at hb
    have h2 := h1.resolve_left (by omega)
    rcases h with ⟨hr, hall⟩ | ⟨z, hz, hfz, hr, hall⟩
    · exact absurd hr h2.1
    · refine Or.inr ⟨z, List.mem_append_left _ hz, hfz, hr, fun y hy hfy => ?_⟩
      rcases List.mem_append.mp hy with hy | hy
      · exact hall y hy hfy
      · rw [List.mem_singleton.mp hy, ← hb]; exact h2.2
theorem en_congr {L : List Nat} {tgt : Nat → Nat} {f g f' g' : Nat → Int} {sp : Bool} {r : Int} (h : en_P L tgt f g sp r) (hf : ∀ x ∈ L, f' (tgt x) = f (tgt x)) (hg : ∀ x ∈ L, g' x = g x) : en_P L tgt f' g' sp r := by
  rcases h with ⟨hr, hall⟩ | ⟨z, hz, hfz, hr, hall⟩
  · exact Or.inl ⟨hr, fun x hx => by rw [hf x hx]; exact hall x hx⟩
  · exact Or.inr ⟨z, hz, by rw [hf z hz]; exact hfz, by rw [hf z hz, hg z hz]; exact hr, fun y hy => by rw [hf y hy, hg y hy]; exact hall y hy⟩
section GS
variable {n : Nat} {adj : Nat → List Nat} {tgt : Nat → Nat} {ow : Nat → Bool} {w : Nat → Int} {M : Int}
/-- the sweeps' numbers: -1 without credit, else between 0 and whatever is enough -/
def sw_I (n : Nat) (adj : Nat → List Nat) (tgt : Nat → Nat) (ow : Nat → Bool) (w : Nat → Int) (f : Nat → Int) : Prop :=
  (∀ u, u < n → ¬ gm_win adj tgt ow w 8 [] u 0 → f u = -1) ∧ ∀ u, u < n → gm_win adj tgt ow w 8 [] u 0 → 0 ≤ f u ∧ ∀ f', gm_pre n adj tgt ow w f' → f u ≤ f' u
/-- f is enough at v -/
def sw_L (adj : Nat → List Nat) (tgt : Nat → Nat) (ow : Nat → Bool) (w : Nat → Int) (f : Nat → Int) (v : Nat) : Prop :=
  (ow v = true → ∃ x ∈ adj v, gm_win adj tgt ow w 8 [] (tgt x) 0 ∧ f (tgt x) ≤ f v + w x) ∧ (ow v = false → ∀ x ∈ adj v, gm_win adj tgt ow w 8 [] (tgt x) 0 → f (tgt x) ≤ f v + w x)
theorem sw_end {f : Nat → Int} (h : sw_I n adj tgt ow w f) (hl : ∀ v, v < n → gm_win adj tgt ow w 8 [] v 0 → sw_L adj tgt ow w f v) : gm_isCr n adj tgt ow w f :=
  ⟨h.1, fun v hv hw => ⟨(h.2 v hv hw).1, (hl v hv hw).1, (hl v hv hw).2⟩, fun f' hf' v hv hw => (h.2 v hv hw).2 f' hf'⟩
theorem sw_ne {f : Nat → Int} (h : sw_I n adj tgt ow w f) {u : Nat} (hu : u < n) : gm_win adj tgt ow w 8 [] u 0 ↔ f u ≠ -1 := by
  constructor
  · intro hw
    have := (h.2 u hu hw).1
    omega
  · intro hf
    by_cases hw : gm_win adj tgt ow w 8 [] u 0
    · exact hw
    · exact absurd (h.1 u hu hw) hf
theorem sw_raise (hT : ∀ v, v < n → ∀ e ∈ adj v, tgt e < n) {f : Nat → Int} (h : sw_I n adj tgt ow w f) {v : Nat} (hv : v < n) (hw : gm_win adj tgt ow w 8 [] v 0) {r : Int} (he : en_P (adj v) tgt f w (ow v) r) (hr : f v < r) : sw_I n adj tgt ow w (fun u => if u = v then r else f u) := by
  refine ⟨fun u hu hnw => ?_, fun u hu hwu => ?_⟩
  · have huv : u ≠ v := fun q => hnw (q ▸ hw)
    simp only [if_neg huv]
    exact h.1 u hu hnw
  · by_cases huv : u = v
    · subst huv
      simp only [if_true]
      have h0 := (h.2 u hu hwu).1
      refine ⟨by omega, fun f' hf' => ?_⟩
      rcases he with ⟨hr1, -⟩ | ⟨z, hz, hfz, hrz, hall⟩
      · omega
      · have hf0 := (hf' u hu hwu).1
        cases ho : ow u with
        | true =>
          obtain ⟨x, hx, hwx, hle⟩ := (hf' u hu hwu).2.1 ho
          have h1 := (h.2 _ (hT u hu x hx) hwx).2 f' hf'
          have h2 := (hall x hx ((sw_ne h (hT u hu x hx)).mp hwx)).1 ho
          omega
        | false =>
          have hwz := (sw_ne h (hT u hu z hz)).mpr hfz
          have h1 := (h.2 _ (hT u hu z hz) hwz).2 f' hf'
          have h2 := (hf' u hu hwu).2.2 ho z hz hwz
          omega
    · simp only [if_neg huv]
      exact h.2 u hu hwu
theorem sw_skip (hn : n ≤ 7) (h0 : 0 ≤ M) (hT : ∀ v, v < n → ∀ e ∈ adj v, tgt e < n) (hM : ∀ v, v < n → ∀ e ∈ adj v, -M ≤ w e) {f : Nat → Int} (h : sw_I n adj tgt ow w f) {v : Nat} (hv : v < n) (hw : gm_win adj tgt ow w 8 [] v 0) {r : Int} (he : en_P (adj v) tgt f w (ow v) r) (hr : r ≤ f v) : sw_L adj tgt ow w f v := by
  refine ⟨fun ho => ?_, fun ho x hx hwx => ?_⟩
  · obtain ⟨fm, hm1, -, -⟩ := gm_pre_ex (ow := ow) hn h0 hT hM
    obtain ⟨y, hy, hwy, -⟩ := (hm1 v hv hw).2.1 ho
    rcases he with ⟨-, hall⟩ | ⟨z, hz, hfz, hrz, -⟩
    · exact absurd (hall y hy) ((sw_ne h (hT v hv y hy)).mp hwy)
    · exact ⟨z, hz, (sw_ne h (hT v hv z hz)).mpr hfz, by omega⟩
  · have hfx := (sw_ne h (hT v hv x hx)).mp hwx
    rcases he with ⟨-, hall⟩ | ⟨z, hz, hfz, hrz, hall⟩
    · exact absurd (hall x hx) hfx
    · have := (hall x hx hfx).2 ho
      omega
theorem sw_bd (hn : n ≤ 7) (h0 : 0 ≤ M) (hT : ∀ v, v < n → ∀ e ∈ adj v, tgt e < n) (hM : ∀ v, v < n → ∀ e ∈ adj v, -M ≤ w e) {f : Nat → Int} (h : sw_I n adj tgt ow w f) {u : Nat} (hu : u < n) : -1 ≤ f u ∧ f u ≤ 6 * M := by
  obtain ⟨fm, hm1, hm2, -⟩ := gm_pre_ex (ow := ow) hn h0 hT hM
  by_cases hw : gm_win adj tgt ow w 8 [] u 0
  · have h1 := (h.2 u hu hw).1
    have h2 := (h.2 u hu hw).2 fm hm1
    have h3 := hm2 u hu hw
    have h4 : ((n : Int) - 1) * M ≤ 6 * M := Int.mul_le_mul_of_nonneg_right (by omega) h0
    omega
  · rw [h.1 u hu hw]
    omega
end GS
def gm_sum (f : Nat → Int) : Nat → Int
  | 0 => 0
  | n + 1 => gm_sum f n + max 0 (f n)
theorem gm_sum_mono {f g : Nat → Int} : ∀ {n : Nat}, (∀ u, u < n → f u ≤ g u) → gm_sum f n ≤ gm_sum g n
  | 0, _ => Int.le_refl _
  | n + 1, h => by
    have h1 := gm_sum_mono (n := n) (fun u hu => h u (by omega))
    have h2 := h n (by omega)
    simp only [gm_sum]
    omega
theorem gm_sum_lt {f g : Nat → Int} : ∀ {n : Nat} {v : Nat}, (∀ u, u < n → f u ≤ g u) → v < n → 0 ≤ f v → f v < g v → gm_sum f n + 1 ≤ gm_sum g n
  | 0, v, _, hv, _, _ => absurd hv (Nat.not_lt_zero v)
  | n + 1, v, h, hv, h0, hlt => by
    simp only [gm_sum]
    by_cases e : v = n
    · subst e
      have h1 := gm_sum_mono (n := v) (fun u hu => h u (by omega))
      omega
    · have h1 := gm_sum_lt (n := n) (fun u hu => h u (by omega)) (show v < n by omega) h0 hlt
      have h2 := h n (by omega)
      omega
theorem gm_sum_bd {f : Nat → Int} {B : Int} (hB : 0 ≤ B) : ∀ {n : Nat}, (∀ u, u < n → f u ≤ B) → 0 ≤ gm_sum f n ∧ gm_sum f n ≤ (n : Int) * B
  | 0, _ => by simp [gm_sum]
  | n + 1, h => by
    have h1 := gm_sum_bd hB (n := n) (fun u hu => h u (by omega))
    have h2 := h n (by omega)
    have e : ((n + 1 : Nat) : Int) * B = (n : Int) * B + B := by simp only [Int.natCast_add, Int.natCast_one, Int.add_mul, Int.one_mul]
    simp only [gm_sum]
    rw [e]
    omega
/-! the game in which player pl spares and p / q counts -/
def cr_ow (G : gr_T) (pl : Nat) : Nat → Bool := if pl = 0 then gr_ow G else fun v => !gr_ow G v
def cr_w (G : gr_T) (pl : Nat) (p q : Int) : Nat → Int := if pl = 0 then fun x => q * gr_w G x - p else fun x => (-q) * gr_w G x - (-p)
def cr_win (G : gr_T) (pl : Nat) (p q : Int) (v : Nat) : Prop := gm_win (gr_adj G) (gr_tgt G) (cr_ow G pl) (cr_w G pl p q) 8 [] v 0
def cr_is (G : gr_T) (pl : Nat) (p q : Int) (f : Nat → Int) : Prop := gm_isCr (gr_n G) (gr_adj G) (gr_tgt G) (cr_ow G pl) (cr_w G pl p q) f
theorem cr_win_iff {G : gr_T} (hg : gf_ok G) {pl : Nat} {p q : Int} (hq : 0 < q) (hp1 : -1000000 * q < p * 420) (hp2 : p * 420 < 1000000 * q) {v : Nat} (hv : v < gr_n G) : cr_win G pl p q v ↔ ((pl = 0 → p * 420 ≤ vl_F G v * q) ∧ (pl ≠ 0 → vl_F G v * q ≤ p * 420)) := by
  unfold cr_win cr_ow cr_w
  by_cases h : pl = 0
  · rw [if_pos h, if_pos h]
    have h1 := gm_pay_ge (ow := gr_ow G) (w := gr_w G) hg.1 (gr_tgts hg) hq hp1 hp2 8 [] v 0 (by simp) gm_ok_nil hv
    simp only [gm_lift, List.length_nil, Int.mul_zero, Int.natCast_zero, Int.sub_zero, Int.sub_self] at h1
    simp only [h, forall_const, ne_eq, not_true, false_implies, and_true]
    exact h1.symm
  · rw [if_neg h, if_neg h]
    have h1 := gm_pay_le (ow := gr_ow G) (w := gr_w G) hg.1 (gr_tgts hg) hq hp1 hp2 8 [] v 0 (by simp) gm_ok_nil hv
    simp only [gm_lift, List.length_nil, Int.mul_zero, Int.natCast_zero, Int.sub_zero, Int.sub_self] at h1
    simp only [h, false_implies, ne_eq, not_false_eq_true, forall_const, true_and]
    exact h1.symm
theorem cr_w_bd {G : gr_T} (hg : gf_ok G) {pl : Nat} {p q : Int} (hq1 : 1 ≤ q) (hq7 : q ≤ 7) (hp1 : -63 ≤ p) (hp2 : p ≤ 63) : ∀ x, x < gr_E G → -126 ≤ cr_w G pl p q x ∧ cr_w G pl p q x ≤ 126 := by
  intro x hx
  have h := (hg.ed x hx).2.2
  rw [← gr_w_eq hx] at h
  unfold cr_w
  have hm : -63 ≤ q * gr_w G x ∧ q * gr_w G x ≤ 63 := by
    generalize gr_w G x = y at h
    rcases (show q = 1 ∨ q = 2 ∨ q = 3 ∨ q = 4 ∨ q = 5 ∨ q = 6 ∨ q = 7 by omega) with rfl | rfl | rfl | rfl | rfl | rfl | rfl <;> omega
  by_cases hpl : pl = 0
  · rw [if_pos hpl]
    omega
  · rw [if_neg hpl]
    simp only [Int.neg_mul]
    omega
theorem cr_M {G : gr_T} (hg : gf_ok G) {pl : Nat} {p q : Int} (hq1 : 1 ≤ q) (hq7 : q ≤ 7) (hp1 : -63 ≤ p) (hp2 : p ≤ 63) : ∀ v, v < gr_n G → ∀ x ∈ gr_adj G v, -126 ≤ cr_w G pl p q x := fun v hv x hx => (cr_w_bd hg hq1 hq7 hp1 hp2 x (gr_adj_mem hg hv hx).1).1
