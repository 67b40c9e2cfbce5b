/-! ===== the graph, read off the cells ===== -/
def gp_out (E : Nat) (src : Nat → Int32) (v : Nat) : List Nat := (List.range E).filter (fun e => src e == nI v)
def gp_adj (n E : Nat) (src fx : Nat → Int32) (v : Nat) : List Nat := if v < n then (if fx v = -1 then gp_out E src v else [(fx v).toNatClampNeg]) else []
def gp_tgt (E : Nat) (tg : Nat → Int32) (e : Nat) : Nat := if e < E then (tg e).toNatClampNeg else 0
def gp_w (E : Nat) (wt : Nat → Int32) (e : Nat) : Int := if e < E then (wt e).toInt else 0
def gp_ow (n : Nat) (own : Nat → Int32) (v : Nat) : Bool := decide (v < n) && (own v == 0)
/-- a graph: how many vertices and edges; owner, fixed edge; source, target, weight -/
abbrev gr_T : Type := Nat × Nat × (Nat → Int32) × (Nat → Int32) × (Nat → Int32) × (Nat → Int32) × (Nat → Int32)
def gr_n (G : gr_T) : Nat := G.1
def gr_E (G : gr_T) : Nat := G.2.1
def gr_own (G : gr_T) : Nat → Int32 := G.2.2.1
def gr_fx (G : gr_T) : Nat → Int32 := G.2.2.2.1
def gr_src (G : gr_T) : Nat → Int32 := G.2.2.2.2.1
def gr_tg (G : gr_T) : Nat → Int32 := G.2.2.2.2.2.1
def gr_wt (G : gr_T) : Nat → Int32 := G.2.2.2.2.2.2
def gr_out (G : gr_T) : Nat → List Nat := gp_out (gr_E G) (gr_src G)
def gr_adj (G : gr_T) : Nat → List Nat := gp_adj (gr_n G) (gr_E G) (gr_src G) (gr_fx G)
def gr_tgt (G : gr_T) : Nat → Nat := gp_tgt (gr_E G) (gr_tg G)
def gr_w (G : gr_T) : Nat → Int := gp_w (gr_E G) (gr_wt G)
def gr_ow (G : gr_T) : Nat → Bool := gp_ow (gr_n G) (gr_own G)
/-- what holds of every graph -/
def gf_ok (G : gr_T) : Prop :=
  gr_n G ≤ 7 ∧ gr_E G ≤ 24 ∧ (∀ v, v < gr_n G → gr_own G v = 0 ∨ gr_own G v = 1) ∧
  (∀ e, e < gr_E G → (∃ a, a < gr_n G ∧ gr_src G e = nI a) ∧ (∃ b, b < gr_n G ∧ gr_tg G e = nI b) ∧ -9 ≤ (gr_wt G e).toInt ∧ (gr_wt G e).toInt ≤ 9) ∧
  (∀ v, v < gr_n G → gr_fx G v = -1 ∨ ∃ e, e < gr_E G ∧ gr_fx G v = nI e ∧ gr_src G e = nI v)
/-- the class's cells hold the graph -/
def gi (G : gr_T) (c : Nat → Nat → Int32) : Prop :=
  gf_ok G ∧ c 1 0 = nI (gr_n G) ∧ c 1 1 = nI (gr_E G) ∧ c 6 = gr_own G ∧ c 7 = gr_fx G ∧ c 9 = gr_src G ∧ c 10 = gr_tg G ∧ c 11 = gr_wt G ∧
  (∀ v, v < 7 → c 8 v = nI (gr_out G v).length ∧ ∀ k, k < (gr_out G v).length → c (22 + v) k = nI ((gr_out G v).getD k 0))
theorem gi.ok {G : gr_T} {c : Nat → Nat → Int32} (h : gi G c) : gf_ok G := h.1
theorem gi.n7 {G : gr_T} {c : Nat → Nat → Int32} (h : gi G c) : gr_n G ≤ 7 := h.1.1
theorem gi.e24 {G : gr_T} {c : Nat → Nat → Int32} (h : gi G c) : gr_E G ≤ 24 := h.1.2.1
theorem gi.vc {G : gr_T} {c : Nat → Nat → Int32} (h : gi G c) : c 1 0 = nI (gr_n G) := h.2.1
theorem gi.ec {G : gr_T} {c : Nat → Nat → Int32} (h : gi G c) : c 1 1 = nI (gr_E G) := h.2.2.1
theorem gi.c6 {G : gr_T} {c : Nat → Nat → Int32} (h : gi G c) : c 6 = gr_own G := h.2.2.2.1
theorem gi.c7 {G : gr_T} {c : Nat → Nat → Int32} (h : gi G c) : c 7 = gr_fx G := h.2.2.2.2.1
theorem gi.c9 {G : gr_T} {c : Nat → Nat → Int32} (h : gi G c) : c 9 = gr_src G := h.2.2.2.2.2.1
theorem gi.c10 {G : gr_T} {c : Nat → Nat → Int32} (h : gi G c) : c 10 = gr_tg G := h.2.2.2.2.2.2.1
theorem gi.c11 {G : gr_T} {c : Nat → Nat → Int32} (h : gi G c) : c 11 = gr_wt G := h.2.2.2.2.2.2.2.1
theorem gi.rows {G : gr_T} {c : Nat → Nat → Int32} (h : gi G c) : ∀ v, v < 7 → c 8 v = nI (gr_out G v).length ∧ ∀ k, k < (gr_out G v).length → c (22 + v) k = nI ((gr_out G v).getD k 0) := h.2.2.2.2.2.2.2.2
theorem gf_ok.own {G : gr_T} (h : gf_ok G) : ∀ v, v < gr_n G → gr_own G v = 0 ∨ gr_own G v = 1 := h.2.2.1
theorem gf_ok.ed {G : gr_T} (h : gf_ok G) : ∀ e, e < gr_E G → (∃ a, a < gr_n G ∧ gr_src G e = nI a) ∧ (∃ b, b < gr_n G ∧ gr_tg G e = nI b) ∧ -9 ≤ (gr_wt G e).toInt ∧ (gr_wt G e).toInt ≤ 9 := h.2.2.2.1
theorem gf_ok.fx {G : gr_T} (h : gf_ok G) : ∀ v, v < gr_n G → gr_fx G v = -1 ∨ ∃ e, e < gr_E G ∧ gr_fx G v = nI e ∧ gr_src G e = nI v := h.2.2.2.2
/-- other cells change, the graph stays -/
theorem gi.up {G : gr_T} {c : Nat → Nat → Int32} {k : Nat} {f : Nat → Int32} (h : gi G c) (hk : 12 ≤ k ∧ k ≤ 20) : gi G (va_up c k f) := by
  have e : ∀ j, j < 12 ∨ 22 ≤ j → va_up c k f j = c j := fun j hj => if_neg (by omega)
  obtain ⟨h1, h2, h3, h4, h5, h6, h7, h8, h9⟩ := h
  refine ⟨h1, ?_, ?_, ?_, ?_, ?_, ?_, ?_, fun v hv => ?_⟩
  · rw [e 1 (by omega)]; exact h2
  · rw [e 1 (by omega)]; exact h3
  · rw [e 6 (by omega)]; exact h4
  · rw [e 7 (by omega)]; exact h5
  · rw [e 9 (by omega)]; exact h6
  · rw [e 10 (by omega)]; exact h7
  · rw [e 11 (by omega)]; exact h8
  · rw [e 8 (by omega), e (22 + v) (by omega)]; exact h9 v hv
theorem gp_out_mem {E : Nat} {src : Nat → Int32} {v e : Nat} : e ∈ gp_out E src v ↔ e < E ∧ src e = nI v := by
  simp [gp_out, List.mem_filter, List.mem_range]
theorem gp_out_len (E : Nat) (src : Nat → Int32) (v : Nat) : (gp_out E src v).length ≤ E := by
  have := List.length_filter_le (fun e => src e == nI v) (List.range E)
  simpa [gp_out] using this
theorem nI_ne1 {k : Nat} (h : k < 2 ^ 31) : nI k ≠ -1 := by
  intro q
  have a := nI_toInt h
  rw [q] at a
  have : (-1 : Int32).toInt = -1 := by decide
  omega
theorem gp_adj_ge {n E : Nat} {src fx : Nat → Int32} {v : Nat} (h : ¬ v < n) : gp_adj n E src fx v = [] := if_neg h
theorem gp_adj_free {n E : Nat} {src fx : Nat → Int32} {v : Nat} (h : v < n) (hf : fx v = -1) : gp_adj n E src fx v = gp_out E src v := by
  unfold gp_adj
  rw [if_pos h, if_pos hf]
theorem gp_adj_fix {n E : Nat} {src fx : Nat → Int32} {v e : Nat} (h : v < n) (hf : fx v = nI e) (he : e < 2 ^ 31) : gp_adj n E src fx v = [e] := by
  unfold gp_adj
  rw [if_pos h, if_neg (by rw [hf]; exact nI_ne1 he), hf, nI_clamp he]
theorem gr_adj_ge {G : gr_T} {v : Nat} (h : ¬ v < gr_n G) : gr_adj G v = [] := if_neg h
theorem gr_adj_free {G : gr_T} {v : Nat} (h : v < gr_n G) (hf : gr_fx G v = -1) : gr_adj G v = gr_out G v := gp_adj_free h hf
theorem gr_adj_fix {G : gr_T} {v e : Nat} (h : v < gr_n G) (hf : gr_fx G v = nI e) (he : e < 2 ^ 31) : gr_adj G v = [e] := gp_adj_fix h hf he
theorem gr_out_mem {G : gr_T} {v e : Nat} : e ∈ gr_out G v ↔ e < gr_E G ∧ gr_src G e = nI v := gp_out_mem
theorem gr_out_len (G : gr_T) (v : Nat) : (gr_out G v).length ≤ gr_E G := gp_out_len _ _ _
theorem gr_adj_mem {G : gr_T} {v e : Nat} (hg : gf_ok G) (hv : v < gr_n G) (he : e ∈ gr_adj G v) : e < gr_E G ∧ gr_src G e = nI v := by
  have h24 := hg.2.1
  rcases hg.fx v hv with hf | ⟨x, hx, hf, hs⟩
  · rw [gr_adj_free hv hf] at he
    exact gr_out_mem.mp he
  · rw [gr_adj_fix hv hf (by omega)] at he
    rw [List.mem_singleton.mp he]
    exact ⟨hx, hs⟩
theorem gr_adj_len {G : gr_T} (hg : gf_ok G) (v : Nat) : (gr_adj G v).length ≤ 24 := by
  have h24 := hg.2.1
  by_cases hv : v < gr_n G
  · rcases hg.fx v hv with hf | ⟨x, hx, hf, hs⟩
    · rw [gr_adj_free hv hf]
      have := gr_out_len G v
      omega
    · rw [gr_adj_fix hv hf (by omega)]
      simp
  · rw [gr_adj_ge hv]
    simp
theorem gr_adj_at {G : gr_T} {v k : Nat} (hg : gf_ok G) (hv : v < gr_n G) (hk : k < (gr_adj G v).length) : (gr_adj G v).getD k 0 ∈ gr_adj G v := by
  rw [List.getD_eq_getElem?_getD, List.getElem?_eq_getElem hk]
  exact List.getElem_mem hk
theorem gr_tgt_lt {G : gr_T} {e : Nat} (hg : gf_ok G) (he : e < gr_E G) : gr_tgt G e < gr_n G ∧ gr_tg G e = nI (gr_tgt G e) := by
  have h7 := hg.1
  obtain ⟨b, hb, h⟩ := (hg.ed e he).2.1
  have e1 : gr_tgt G e = b := by
    show (if e < gr_E G then (gr_tg G e).toNatClampNeg else 0) = b
    rw [if_pos he, h, nI_clamp (by omega)]
  rw [e1]
  exact ⟨hb, h⟩
theorem gr_w_eq {G : gr_T} {e : Nat} (he : e < gr_E G) : gr_w G e = (gr_wt G e).toInt := if_pos he
theorem gr_tgts {G : gr_T} (hg : gf_ok G) : ∀ v, v < gr_n G → ∀ e ∈ gr_adj G v, gr_tgt G e < gr_n G := fun v hv e he => (gr_tgt_lt hg (gr_adj_mem hg hv he).1).1
theorem gr_ws {G : gr_T} (hg : gf_ok G) : ∀ v, v < gr_n G → ∀ e ∈ gr_adj G v, -9 ≤ gr_w G e ∧ gr_w G e ≤ 9 := fun v hv e he => by
  have h := (gr_adj_mem hg hv he).1
  rw [gr_w_eq h]
  exact (hg.ed e h).2.2
/-- a vertex of the game: hasVertex's answer -/
def hv_P (n : Nat) (v r : Int32) : Prop := (r = 1 ∧ ∃ j, j < n ∧ v = nI j) ∨ (r = 0 ∧ ¬ ∃ j, j < n ∧ v = nI j)
theorem hv_neg {n : Nat} {v : Int32} (hn : n ≤ 7) (h : v < 0) : hv_P n v 0 := by
  refine Or.inr ⟨rfl, ?_⟩
  rintro ⟨j, hj, rfl⟩
  exact nI_pos (by omega) h
theorem hv_ge {n : Nat} {v x : Int32} (hn : n ≤ 7) (hx : x = nI n) (h : x ≤ v) : hv_P n v 0 := by
  refine Or.inr ⟨rfl, ?_⟩
  rintro ⟨j, hj, rfl⟩
  subst hx
  exact nI_ge hj (by omega) h
theorem hv_7 {n : Nat} {v : Int32} (hn : n ≤ 7) (h : (7 : Int32) ≤ v) : hv_P n v 0 := by
  refine Or.inr ⟨rfl, ?_⟩
  rintro ⟨j, hj, rfl⟩
  exact nI_ge (show j < 7 by omega) (by omega) h
theorem hv_ok {n : Nat} {v x : Int32} (hn : n ≤ 7) (hx : x = nI n) (h0 : ¬ v < 0) (h : ¬ x ≤ v) : hv_P n v 1 := by
  rcases pk_ix v (n := n) (by omega) with h1 | h1 | h1
  · exact absurd h1 h0
  · exact absurd (hx ▸ h1) h
  · exact Or.inl ⟨rfl, h1⟩
theorem hv_nlt {n j : Nat} {r : Int32} (w : hv_P n (nI j) r) (b : r = 0) : ¬ j < n := by
  intro h
  rcases w with ⟨h1, -⟩ | ⟨-, h2⟩
  · rw [h1] at b
    exact absurd b (by decide)
  · exact h2 ⟨j, h, rfl⟩
theorem hv_lt {n j : Nat} {r : Int32} (hn : n ≤ 7) (hj : j < 2 ^ 31) (w : hv_P n (nI j) r) (b : ¬ r = 0) : j < n := by
  rcases w with ⟨-, k, hk, he⟩ | ⟨h1, -⟩
  · rw [(nI_eq hj (by omega)).mp he]
    exact hk
  · exact absurd h1 b
theorem hv_one {n j : Nat} {r : Int32} (h : j < n) (w : hv_P n (nI j) r) : r = 1 := by
  rcases w with ⟨h1, -⟩ | ⟨-, h2⟩
  · exact h1
  · exact absurd ⟨j, h, rfl⟩ h2
theorem xw_row0 {j : Nat} (h : j < 7) : 0 < xw_l (22 + j) := by
  rcases (show j = 0 ∨ j = 1 ∨ j = 2 ∨ j = 3 ∨ j = 4 ∨ j = 5 ∨ j = 6 by omega) with rfl | rfl | rfl | rfl | rfl | rfl | rfl <;> decide
theorem xw_rowl {j k : Nat} (h : j < 7) (hk : k < 24) : k < xw_l (22 + j) := by
  rcases (show j = 0 ∨ j = 1 ∨ j = 2 ∨ j = 3 ∨ j = 4 ∨ j = 5 ∨ j = 6 by omega) with rfl | rfl | rfl | rfl | rfl | rfl | rfl <;> exact hk
/-- an edge from a vertex: isFrom's answer -/
def hf_P (src : Nat → Int32) (E : Nat) (x v r : Int32) : Prop := (r = 1 ∧ ∃ k, k < E ∧ x = nI k ∧ src k = v) ∨ (r = 0 ∧ ¬ ∃ k, k < E ∧ x = nI k ∧ src k = v)
theorem hf_neg {src : Nat → Int32} {E : Nat} {x v : Int32} (hE : E ≤ 24) (h : x < 0) : hf_P src E x v 0 := by
  refine Or.inr ⟨rfl, ?_⟩
  rintro ⟨j, hj, rfl, -⟩
  exact nI_pos (by omega) h
theorem hf_ge {src : Nat → Int32} {E : Nat} {x v y : Int32} (hE : E ≤ 24) (hy : y = nI E) (h : y ≤ x) : hf_P src E x v 0 := by
  refine Or.inr ⟨rfl, ?_⟩
  rintro ⟨j, hj, rfl, -⟩
  subst hy
  exact nI_ge hj (by omega) h
theorem hf_24 {src : Nat → Int32} {E : Nat} {x v : Int32} (hE : E ≤ 24) (h : (24 : Int32) ≤ x) : hf_P src E x v 0 := by
  refine Or.inr ⟨rfl, ?_⟩
  rintro ⟨j, hj, rfl, -⟩
  exact nI_ge (show j < 24 by omega) (by omega) h
theorem ix_of {n : Nat} {v x : Int32} (hn : n ≤ 100) (hx : x = nI n) (h0 : ¬ v < 0) (h : ¬ x ≤ v) : ∃ j, j < n ∧ v = nI j := by
  rcases pk_ix v (n := n) (by omega) with h1 | h1 | h1
  · exact absurd h1 h0
  · exact absurd (hx ▸ h1) h
  · exact h1
