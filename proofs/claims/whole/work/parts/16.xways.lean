/-! X: the ways -/
theorem ry_col {w : Nat → Nat} {e g l : Nat} : (fun f => ru_p w (16 * e + g) l (16 * f + g)) = ru_p (fun f => w (16 * f + g)) e l := by
  funext f
  unfold ru_p
  by_cases h : f = e
  · rw [if_pos (by omega), if_pos h]
  · rw [if_neg (by omega), if_neg h]
/-- what rq_WX says of one goal -/
def rq_W1 (ln fm tt le li we op mk wd wn : Nat → Nat) (g : Nat) : Prop := ∃ T, ry_Bel (rq_K ln fm tt op mk) (rq_co le li we) g (0 < ln g) T ∧
  (∀ e, e < 16 → T e < 1000000 → T e ≤ 400000) ∧ (∀ e, e < 16 → wd (16 * e + g) = if T e < 1000000 then T e + 1 else 0) ∧
  (∀ e, e < 16 → e = g → wn (16 * e + g) = 0) ∧ (∀ e, e < 16 → e ≠ g → ry_Nx (rq_K ln fm tt op mk) (rq_co le li we) T e (wn (16 * e + g)))
section
variable {ln fm tt le li rk we op ca mk wd wn fa pc ph pa pe pt se ls mo tp ac sz dw st ty ed fr sp go nz tk en ch nw ps pg cf ct la gr cr ne nl oe ol fl tl : Nat → Nat} {tn kn N : Nat} {th : Int32} {gp fs : Nat → Int32}
theorem rq_W1o {wd' wn' : Nat → Nat} {g g' : Nat} (hn : g' ≠ g) (hg : g < 16) (hg' : g' < 16) (h : rq_W1 ln fm tt le li we op mk wd wn g') (o : ∀ k, k % 16 ≠ g → wd' k = wd k ∧ wn' k = wn k) : rq_W1 ln fm tt le li we op mk wd' wn' g' := by
  obtain ⟨T, t1, t2, t3, t4, t5⟩ := h
  have c : ∀ e, wd' (16 * e + g') = wd (16 * e + g') ∧ wn' (16 * e + g') = wn (16 * e + g') := fun e => o _ (by omega)
  refine ⟨T, t1, t2, fun e he => ?_, fun e he hq => ?_, fun e he hq => ?_⟩
  · rw [(c e).1]; exact t3 e he
  · rw [(c e).2]; exact t4 e he hq
  · rw [(c e).2]; exact t5 e he hq
theorem rq_W1f {g : Nat} (hg : g < 16) (hb : ∀ e, e < 16 → wd (16 * e + g) ≤ 400001) (hn : wn (16 * g + g) = 0) (h : ry_Bel (rq_K ln fm tt op mk) (rq_co le li we) g (0 < ln g) (ry_dec (fun f => wd (16 * f + g))) ∧ ∀ e, e < 16 → e ≠ g → ry_Nx (rq_K ln fm tt op mk) (rq_co le li we) (ry_dec (fun f => wd (16 * f + g))) e (wn (16 * e + g))) : rq_W1 ln fm tt le li we op mk wd wn g := by
  have v : ∀ e, e < 16 → (ry_dec (fun f => wd (16 * f + g)) e < 1000000 ↔ 0 < wd (16 * e + g)) := fun e he => ry_decL (δ := fun f => wd (16 * f + g)) (by have := hb e he; show wd (16 * e + g) ≤ 1000000; omega)
  have u : ∀ e, 0 < wd (16 * e + g) → ry_dec (fun f => wd (16 * f + g)) e + 1 = wd (16 * e + g) := fun e he => ry_decV (δ := fun f => wd (16 * f + g)) he
  refine ⟨_, h.1, fun e he ht => ?_, fun e he => ?_, fun e he hq => by rw [hq]; exact hn, h.2⟩
  · have a := u e ((v e he).mp ht)
    have b := hb e he
    omega
  · by_cases z : ry_dec (fun f => wd (16 * f + g)) e < 1000000
    · rw [if_pos z]; exact (u e ((v e he).mp z)).symm
    · rw [if_neg z]
      rcases Nat.eq_zero_or_pos (wd (16 * e + g)) with q | q
      · exact q
      · exact absurd ((v e he).mpr q) z
theorem rx_fn (post : Int32 → SX → Prop) {e g : Nat} {x y : Int32} (hx : x = nI e) (hy : y = nI g) (hE : (rq_E ln fm tt le li rk we op mk)) (he : e < 16) (hg : g < 16) (hte : 0 < ln e) (hB : ∀ f, f < 16 → wd (16 * f + g) ≤ 400000)
    (H : ∀ b l, ry_Fn (rq_K ln fm tt op mk) (rq_co le li we) (fun f => wd (16 * f + g)) e 16 b l → post (rb_ (wd (16 * e + g) ≠ l)) (nI tn, rn_A ln, rn_A fm, rn_A tt, rn_A le, rn_A li, rn_A rk, rn_A we, rn_A op, rn_A ca, rn_A mk, rn_B (ru_p wd (16 * e + g) l), rn_B (ru_p wn (16 * e + g) b), rn_A pc, rn_A ph, rn_A pa, rn_A pe, rn_A pt, rn_A tp, rn_A ac, rn_A sz, rn_A dw, rn_A st, rn_A ty, rn_A ed, rn_B ps, rn_A fr, rn_A sp, rn_A go, rn_A nz, rn_B pg, rn_B cf, rn_B ct, rn_A tk, rn_A en, rn_B ch, rn_A nw, rn_A tl)) : wpX_findNext post (nI tn, rn_A ln, rn_A fm, rn_A tt, rn_A le, rn_A li, rn_A rk, rn_A we, rn_A op, rn_A ca, rn_A mk, rn_B wd, rn_B wn, rn_A pc, rn_A ph, rn_A pa, rn_A pe, rn_A pt, rn_A tp, rn_A ac, rn_A sz, rn_A dw, rn_A st, rn_A ty, rn_A ed, rn_B ps, rn_A fr, rn_A sp, rn_A go, rn_A nz, rn_B pg, rn_B cf, rn_B ct, rn_A tk, rn_A en, rn_B ch, rn_A nw, rn_A tl) x y := by
  subst hx hy
  have ix : ∀ i, (16 : Int32) * nI i + nI g = nI (16 * i + g) := fun i => by rw [show (16 : Int32) * nI i = nI (16 * i) from pk_mul 16 _, nI_add]
  have bd : ∀ {n b l}, n ≤ 16 → ry_Fn (rq_K ln fm tt op mk) (rq_co le li we) (fun f => wd (16 * f + g)) e n b l → b ≤ 16 ∧ l ≤ 401211 ∧ (b ≠ 0 → 0 < l) := by
    intro n b l hn k
    have := ry_FnB (rq_hco hE) (B := 400000) (fun i hi => hB i (by omega)) k
    rcases k with ⟨k1, k2, _⟩ | ⟨f, k1, k2, k3, k4, k5, _⟩
    · omega
    · have : 0 < wd (16 * f + g) := k4
      omega
  refine loop_0 (fun n i (s : Nat × Nat) => wX_findNext_10 post (nI e) (nI g) (nI tn) (rn_A ln) (rn_A fm) (rn_A tt) (rn_A le) (rn_A li) (rn_A rk) (rn_A we) (rn_A op) (rn_A ca) (rn_A mk) (rn_B wd) (rn_B wn) (rn_A pc) (rn_A ph) (rn_A pa) (rn_A pe) (rn_A pt) (rn_A tp) (rn_A ac) (rn_A sz) (rn_A dw) (rn_A st) (rn_A ty) (rn_A ed) (rn_B ps) (rn_A fr) (rn_A sp) (rn_A go) (rn_A nz) (rn_B pg) (rn_B cf) (rn_B ct) (rn_A tk) (rn_A en) (rn_B ch) (rn_A nw) (rn_A tl) n (rn_c s.1) (rn_c s.2) (nI i)) (fun i s => ry_Fn (rq_K ln fm tt op mk) (rq_co le li we) (fun f => wd (16 * f + g)) e i s.1 s.2) 16 (0, 0) ry_Fn0 ?_ ?_
  · intro n s k
    obtain ⟨b1, b2, b3⟩ := bd (Nat.le_refl _) k
    have V := hB e he
    have hp := H s.1 s.2 k
    refine br_t (by decide) ?_
    rw [ix]
    refine ⟨vp_in_nI (by omega) (by omega), ek_f (rn_2 (rn_rB (by omega)) rfl (by omega) (by omega)) (fun q => ?_) (fun q => ?_)⟩
    · rw [rb_f (fun w => w q)] at hp
      unfold wX_findNext_116
      rw [ix]
      exact ⟨vp_in_nI (by omega) (by omega), nm_r (rn_uB (by omega)) ⟨vp_in_nI (by omega) (by omega), nm_r (rn_uB (by omega)) ⟨rfl, hp⟩⟩⟩
    · rw [rb_t q] at hp
      unfold wX_findNext_116
      rw [ix]
      exact ⟨vp_in_nI (by omega) (by omega), nm_r (rn_uB (by omega)) ⟨vp_in_nI (by omega) (by omega), nm_r (rn_uB (by omega)) ⟨rfl, hp⟩⟩⟩
  · intro n i s hi k ih
    obtain ⟨b1, b2, b3⟩ := bd (by omega) k
    have V := hB i hi
    have A := hE.1 i
    refine br_f (nI_ge (b := 16) hi (by decide)) ?_
    rw [ix]
    refine ⟨vp_in_nI (by omega) (by omega), nm_r (rn_rB (by omega)) ?_⟩
    refine ek_f (rn_c2 (by omega)) (fun q => nm_r (nI_1 i) (ih s (ry_FnN k (fun w => by have : 0 < wd (16 * i + g) := w.2.1; omega)))) (fun q => ⟨pk_in i 16 hi, ?_⟩)
    refine ek_f (rn_e (rn_rA (by omega)) (b := 0) rfl (by omega) (by omega)) (fun q2 => nm_r (nI_1 i) (ih s (ry_FnN k (fun w => by have := w.1.2.1; omega)))) (fun q2 => ?_)
    refine rx_el _ rfl rfl hE he hi (rb_b (fun q3 => nm_r (nI_1 i) (ih s (ry_FnN k (fun w => q3 w.1.2.2)))) (fun q3 => ?_))
    have hK : (rq_K ln fm tt op mk) e i := ⟨hte, by omega, q3⟩
    have hli := (rq_Kf hK).1
    have hco := rq_coB hE hli
    refine rx_co _ rfl hE hi hli (nm_r (e' := rn_c ((rq_co le li we) i + wd (16 * i + g))) (by rw [rn_cs (by omega), rn_cs (by omega), nI_add]; congr 1; omega) ?_)
    refine ek_f (rn_c2 (by omega)) (fun q4 => nm_r (nI_1 i) (ih (i + 1, (rq_co le li we) i + wd (16 * i + g)) (ry_FnS k hK (by show 0 < wd (16 * i + g); omega) (Or.inl q4)))) (fun q4 => ?_)
    have l0 := b3 q4
    refine pk_le (s.2 - 1) ((rq_co le li we) i + wd (16 * i + g) - 1) (fun q5 => nm_r (nI_1 i) (ih s (ry_FnN k (fun w => ?_)))) (fun q5 => nm_r (nI_1 i) (ih (i + 1, (rq_co le li we) i + wd (16 * i + g)) (ry_FnS k hK (by show 0 < wd (16 * i + g); omega) (Or.inr ?_)))) (rn_cs l0) (rn_cs (by omega))
    · have : s.1 = 0 ∨ (rq_co le li we) i + wd (16 * i + g) < s.2 := w.2.2
      omega
    · show (rq_co le li we) i + wd (16 * i + g) < s.2
      omega
theorem rx_f81 (post : SX → Prop) {J : Int32 → Int32 → Int32 → (Nat → Int32) → (Nat → Int32) → (Nat → Int32) → (Nat → Int32) → (Nat → Int32) → (Nat → Int32) → (Nat → Int32) → (Nat → Int32) → (Nat → Int32) → (Nat → Int32) → (Nat → Int32) → (Nat → Int32) → (Nat → Int32) → (Nat → Int32) → (Nat → Int32) → (Nat → Int32) → (Nat → Int32) → (Nat → Int32) → (Nat → Int32) → (Nat → Int32) → (Nat → Int32) → (Nat → Int32) → (Nat → Int32) → (Nat → Int32) → (Nat → Int32) → (Nat → Int32) → (Nat → Int32) → (Nat → Int32) → (Nat → Int32) → (Nat → Int32) → (Nat → Int32) → (Nat → Int32) → (Nat → Int32) → (Nat → Int32) → (Nat → Int32) → (Nat → Int32) → (Nat → Int32) → Prop} {g r : Nat} {T δ0 wd0 wn0 : Nat → Nat} (hE : (rq_E ln fm tt le li rk we op mk)) (hg : g < 16) (hr : r < 16) (htg : 0 < ln g) (hT : ry_Bel (rq_K ln fm tt op mk) (rq_co le li we) g (0 < ln g) T)
    (H : ∀ b wd wn, b ≤ 1 → ry_RI (fun e => 0 < ln e) (rq_K ln fm tt op mk) (rq_co le li we) g T r 16 (fun f => wd (16 * f + g)) δ0 (fun f => wn (16 * f + g)) b → (∀ k, k % 16 ≠ g → wd k = wd0 k ∧ wn k = wn0 k) → J (nI b) (nI (r + 1)) (nI tn) (rn_A ln) (rn_A fm) (rn_A tt) (rn_A le) (rn_A li) (rn_A rk) (rn_A we) (rn_A op) (rn_A ca) (rn_A mk) (rn_B wd) (rn_B wn) (rn_A pc) (rn_A ph) (rn_A pa) (rn_A pe) (rn_A pt) (rn_A tp) (rn_A ac) (rn_A sz) (rn_A dw) (rn_A st) (rn_A ty) (rn_A ed) (rn_B ps) (rn_A fr) (rn_A sp) (rn_A go) (rn_A nz) (rn_B pg) (rn_B cf) (rn_B ct) (rn_A tk) (rn_A en) (rn_B ch) (rn_A nw) (rn_A tl)) :
    ∀ n e b wd wn, e ≤ 16 → 16 - e < n → b ≤ 1 → ry_RI (fun e => 0 < ln e) (rq_K ln fm tt op mk) (rq_co le li we) g T r e (fun f => wd (16 * f + g)) δ0 (fun f => wn (16 * f + g)) b → (∀ k, k % 16 ≠ g → wd k = wd0 k ∧ wn k = wn0 k) → wX_findWaysTo_81 post J (nI g) (nI r) n (nI b) (nI e) (nI tn) (rn_A ln) (rn_A fm) (rn_A tt) (rn_A le) (rn_A li) (rn_A rk) (rn_A we) (rn_A op) (rn_A ca) (rn_A mk) (rn_B wd) (rn_B wn) (rn_A pc) (rn_A ph) (rn_A pa) (rn_A pe) (rn_A pt) (rn_A tp) (rn_A ac) (rn_A sz) (rn_A dw) (rn_A st) (rn_A ty) (rn_A ed) (rn_B ps) (rn_A fr) (rn_A sp) (rn_A go) (rn_A nz) (rn_B pg) (rn_B cf) (rn_B ct) (rn_A tk) (rn_A en) (rn_B ch) (rn_A nw) (rn_A tl) := by
  intro n
  induction n with
  | zero => intro e b wd wn h1 h2; omega
  | succ n ih =>
    intro e b wd wn he hen hb hR hO
    refine pk_le 16 e (fun z => nm_r (nI_1 r) (H b wd wn hb (by rw [show e = 16 by omega] at hR; exact hR) hO)) (fun z => ?_)
    have hKt : ∀ e f, (rq_K ln fm tt op mk) e f → 0 < ln e := fun _ _ h => h.1
    have A := hE.1 e
    refine ek_f (rn_e rfl rfl (by omega) (by omega)) (fun q => nm_r (nI_1 e) (ih (e + 1) b wd wn (by omega) (by omega) hb (ry_RIk hKt hT htg (Or.inl q) hR) hO)) (fun q => ⟨pk_in e 16 z, ?_⟩)
    refine pk_le (ln e) 0 (fun q2 => nm_r (nI_1 e) (ih (e + 1) b wd wn (by omega) (by omega) hb (ry_RIk hKt hT htg (Or.inr (by show ¬ 0 < ln e; omega)) hR) hO)) (fun q2 => ?_) (rn_rA (by omega))
    refine rx_fn _ rfl rfl hE z hg q2 (fun f hf => by have : wd (16 * f + g) ≤ 1 + 1211 * (16 * r + e) := hR.2.2.2.1 f hf; omega) (fun bb l hF => ?_)
    have R1 := ry_RIs (th := fun e => 0 < ln e) (rq_hc hE) (rq_hco hE) hT hr z q q2 hR hF
    rw [← ry_col, ← ry_col] at R1
    have O1 : ∀ k, k % 16 ≠ g → ru_p wd (16 * e + g) l k = wd0 k ∧ ru_p wn (16 * e + g) bb k = wn0 k := by
      intro k hk
      rw [ru_n (by omega), ru_n (by omega)]
      exact hO k hk
    refine rb_b (fun q3 => nm_r (nI_1 e) (ih (e + 1) b _ _ (by omega) (by omega) hb ?_ O1)) (fun q3 => nm_r (nI_1 e) (ih (e + 1) 1 _ _ (by omega) (by omega) (by omega) ?_ O1))
    · rw [if_pos (Classical.not_not.mp q3)] at R1; exact R1
    · rw [if_neg q3] at R1; exact R1
theorem rx_f66 (post : SX → Prop) {g : Nat} {T wd0 wn0 : Nat → Nat} (hE : (rq_E ln fm tt le li rk we op mk)) (hg : g < 16) (htg : 0 < ln g) (hT : ry_Bel (rq_K ln fm tt op mk) (rq_co le li we) g (0 < ln g) T)
    (H : ∀ wd wn, rq_W1 ln fm tt le li we op mk wd wn g → (∀ k, k % 16 ≠ g → wd k = wd0 k ∧ wn k = wn0 k) → post (nI tn, rn_A ln, rn_A fm, rn_A tt, rn_A le, rn_A li, rn_A rk, rn_A we, rn_A op, rn_A ca, rn_A mk, rn_B wd, rn_B wn, rn_A pc, rn_A ph, rn_A pa, rn_A pe, rn_A pt, rn_A tp, rn_A ac, rn_A sz, rn_A dw, rn_A st, rn_A ty, rn_A ed, rn_B ps, rn_A fr, rn_A sp, rn_A go, rn_A nz, rn_B pg, rn_B cf, rn_B ct, rn_A tk, rn_A en, rn_B ch, rn_A nw, rn_A tl)) :
    ∀ n r wd wn, r < 16 → 16 - r < n → ry_RI (fun e => 0 < ln e) (rq_K ln fm tt op mk) (rq_co le li we) g T r 0 (fun f => wd (16 * f + g)) (fun f => wd (16 * f + g)) (fun f => wn (16 * f + g)) 0 → (∀ k, k % 16 ≠ g → wd k = wd0 k ∧ wn k = wn0 k) → wX_findWaysTo_66 post (nI g) n 1 (nI r) (nI tn) (rn_A ln) (rn_A fm) (rn_A tt) (rn_A le) (rn_A li) (rn_A rk) (rn_A we) (rn_A op) (rn_A ca) (rn_A mk) (rn_B wd) (rn_B wn) (rn_A pc) (rn_A ph) (rn_A pa) (rn_A pe) (rn_A pt) (rn_A tp) (rn_A ac) (rn_A sz) (rn_A dw) (rn_A st) (rn_A ty) (rn_A ed) (rn_B ps) (rn_A fr) (rn_A sp) (rn_A go) (rn_A nz) (rn_B pg) (rn_B cf) (rn_B ct) (rn_A tk) (rn_A en) (rn_B ch) (rn_A nw) (rn_A tl) := by
  intro n
  induction n with
  | zero => intro r wd wn h1 h2; omega
  | succ n ih =>
    intro r wd wn hr hrn hR hO
    refine br_f (nI_ge (b := 16) hr (by decide)) (br_f (by decide) ⟨17, rx_f81 post hE hg hr htg hT (fun b wd' wn' hb hR' hO' => ?_) 17 0 0 wd wn (by omega) (by omega) (by omega) hR hO⟩)
    rcases Nat.eq_zero_or_pos b with q | q
    · subst q
      have fin : post (nI tn, rn_A ln, rn_A fm, rn_A tt, rn_A le, rn_A li, rn_A rk, rn_A we, rn_A op, rn_A ca, rn_A mk, rn_B wd', rn_B wn', rn_A pc, rn_A ph, rn_A pa, rn_A pe, rn_A pt, rn_A tp, rn_A ac, rn_A sz, rn_A dw, rn_A st, rn_A ty, rn_A ed, rn_B ps, rn_A fr, rn_A sp, rn_A go, rn_A nz, rn_B pg, rn_B cf, rn_B ct, rn_A tk, rn_A en, rn_B ch, rn_A nw, rn_A tl) := by
        refine H wd' wn' (rq_W1f hg (fun e he => ?_) hR'.2.2.2.2.2.2.1 (ry_RIe (fun _ _ h => h.1) hg htg hr hR')) hO'
        have : wd' (16 * e + g) ≤ 1 + 1211 * (16 * r + 16) := hR'.2.2.2.1 e he
        omega
      obtain ⟨m, rfl⟩ : ∃ m, n = m + 1 := ⟨n - 1, by omega⟩
      exact br_c (fun _ => fin) (fun _ => br_t rfl fin)
    · have b1 : b = 1 := by omega
      subst b1
      obtain ⟨r1, r2⟩ := ry_RIn (by omega) hr hR'
      exact ih (r + 1) wd' wn' r1 (by omega) r2 hO'
theorem rx_f2 (post : SX → Prop) {g : Nat} {wd0 wn0 : Nat → Nat} (hE : (rq_E ln fm tt le li rk we op mk)) (hg : g < 16)
    (H : ∀ wd wn, rq_W1 ln fm tt le li we op mk wd wn g → (∀ k, k % 16 ≠ g → wd k = wd0 k ∧ wn k = wn0 k) → post (nI tn, rn_A ln, rn_A fm, rn_A tt, rn_A le, rn_A li, rn_A rk, rn_A we, rn_A op, rn_A ca, rn_A mk, rn_B wd, rn_B wn, rn_A pc, rn_A ph, rn_A pa, rn_A pe, rn_A pt, rn_A tp, rn_A ac, rn_A sz, rn_A dw, rn_A st, rn_A ty, rn_A ed, rn_B ps, rn_A fr, rn_A sp, rn_A go, rn_A nz, rn_B pg, rn_B cf, rn_B ct, rn_A tk, rn_A en, rn_B ch, rn_A nw, rn_A tl)) :
    ∀ n e wd wn, e ≤ 16 → 16 - e < n → (∀ i, i < e → wd (16 * i + g) = 0 ∧ wn (16 * i + g) = 0) → (∀ k, k % 16 ≠ g → wd k = wd0 k ∧ wn k = wn0 k) → wX_findWaysTo_2 post (nI g) (nI tn) n (nI e) (rn_A ln) (rn_A fm) (rn_A tt) (rn_A le) (rn_A li) (rn_A rk) (rn_A we) (rn_A op) (rn_A ca) (rn_A mk) (rn_B wd) (rn_B wn) (rn_A pc) (rn_A ph) (rn_A pa) (rn_A pe) (rn_A pt) (rn_A tp) (rn_A ac) (rn_A sz) (rn_A dw) (rn_A st) (rn_A ty) (rn_A ed) (rn_B ps) (rn_A fr) (rn_A sp) (rn_A go) (rn_A nz) (rn_B pg) (rn_B cf) (rn_B ct) (rn_A tk) (rn_A en) (rn_B ch) (rn_A nw) (rn_A tl) := by
  intro n
  induction n with
  | zero => intro e wd wn h1 h2; omega
  | succ n ih =>
    intro e wd wn he hen h0 hO
    have ix : ∀ i, (16 : Int32) * nI i + nI g = nI (16 * i + g) := fun i => by rw [show (16 : Int32) * nI i = nI (16 * i) from pk_mul 16 _, nI_add]
    have A := hE.1 g
    refine pk_le 16 e (fun z => ⟨pk_in g 16 hg, ek_f (rn_e (rn_rA (by omega)) (b := 0) rfl (by omega) (by omega)) (fun q => ?_) (fun q => ?_)⟩) (fun z => ?_)
    · refine H wd wn (rq_W1f hg (fun i hi => by have := (h0 i (by omega)).1; omega) (h0 g (by omega)).2 ?_) hO
      exact ry_fix (fun i hi => by have := (h0 i (by omega)).1; show wd (16 * i + g) ≤ 1000000; omega) hg (fun w => by omega) (fun _ => (h0 g (by omega)).1) (fun i hi hn => by
        show ry_Fn (rq_K ln fm tt op mk) (rq_co le li we) (fun f => wd (16 * f + g)) i 16 (wn (16 * i + g)) (wd (16 * i + g))
        rw [(h0 i (by omega)).1, (h0 i (by omega)).2]
        exact Or.inl ⟨rfl, rfl, fun f hf _ => (h0 f (by omega)).1⟩)
    · have q0 : 0 < ln g := by omega
      obtain ⟨T, hT⟩ := ry_exist (rq_K ln fm tt op mk) (rq_co le li we) g (0 < ln g)
      rw [ix]
      refine ⟨vp_in_nI (by omega) (by omega), nm_r (rn_uB (x := 1) (by omega)) ⟨17, rx_f66 post hE hg q0 hT H 17 0 _ wn (by omega) (by omega) ?_ (fun k hk => by rw [ru_n (by omega)]; exact hO k hk)⟩⟩
      refine ry_RI0 (th := fun e => 0 < ln e) (rq_hc hE) q0 hT q0 hg (fun i hi => ?_) (fun i hi => (h0 i (by omega)).2)
      show ru_p wd (16 * g + g) 1 (16 * i + g) = _
      by_cases w : i = g
      · subst w; rw [ru_s, if_pos rfl]
      · rw [ru_n (by omega), if_neg w]; exact (h0 i (by omega)).1
    · rw [ix]
      refine ⟨vp_in_nI (by omega) (by omega), nm_r (rn_uB (x := 0) (by omega)) ⟨vp_in_nI (by omega) (by omega), nm_r (rn_uB (x := 0) (by omega)) (nm_r (nI_1 e) ?_)⟩⟩
      refine ih (e + 1) _ _ (by omega) (by omega) (fun i hi => ?_) (fun k hk => ?_)
      · rcases Nat.decEq i e with q | q
        · rw [ru_n (by omega), ru_n (by omega)]; exact h0 i (by omega)
        · subst q; rw [ru_s, ru_s]; exact ⟨rfl, rfl⟩
      · rw [ru_n (by omega), ru_n (by omega)]; exact hO k hk
theorem rx_fwt (post : SX → Prop) {g : Nat} {x : Int32} (hx : x = nI g) (hE : (rq_E ln fm tt le li rk we op mk)) (hg : g < 16)
    (H : ∀ wd' wn', rq_W1 ln fm tt le li we op mk wd' wn' g → (∀ k, k % 16 ≠ g → wd' k = wd k ∧ wn' k = wn k) → post (nI tn, rn_A ln, rn_A fm, rn_A tt, rn_A le, rn_A li, rn_A rk, rn_A we, rn_A op, rn_A ca, rn_A mk, rn_B wd', rn_B wn', rn_A pc, rn_A ph, rn_A pa, rn_A pe, rn_A pt, rn_A tp, rn_A ac, rn_A sz, rn_A dw, rn_A st, rn_A ty, rn_A ed, rn_B ps, rn_A fr, rn_A sp, rn_A go, rn_A nz, rn_B pg, rn_B cf, rn_B ct, rn_A tk, rn_A en, rn_B ch, rn_A nw, rn_A tl)) : wpX_findWaysTo post (nI tn, rn_A ln, rn_A fm, rn_A tt, rn_A le, rn_A li, rn_A rk, rn_A we, rn_A op, rn_A ca, rn_A mk, rn_B wd, rn_B wn, rn_A pc, rn_A ph, rn_A pa, rn_A pe, rn_A pt, rn_A tp, rn_A ac, rn_A sz, rn_A dw, rn_A st, rn_A ty, rn_A ed, rn_B ps, rn_A fr, rn_A sp, rn_A go, rn_A nz, rn_B pg, rn_B cf, rn_B ct, rn_A tk, rn_A en, rn_B ch, rn_A nw, rn_A tl) x := by
  subst hx
  exact ⟨17, rx_f2 post hE hg H 17 0 wd wn (by omega) (by omega) (fun i hi => absurd hi (Nat.not_lt_zero i)) (fun k _ => ⟨rfl, rfl⟩)⟩
theorem rx_ways (post : SX → Prop) (hE : (rq_E ln fm tt le li rk we op mk)) (H : ∀ wd wn, (rq_WX ln fm tt le li we op mk wd wn) → post (nI tn, rn_A ln, rn_A fm, rn_A tt, rn_A le, rn_A li, rn_A rk, rn_A we, rn_A op, rn_A ca, rn_A mk, rn_B wd, rn_B wn, rn_A pc, rn_A ph, rn_A pa, rn_A pe, rn_A pt, rn_A tp, rn_A ac, rn_A sz, rn_A dw, rn_A st, rn_A ty, rn_A ed, rn_B ps, rn_A fr, rn_A sp, rn_A go, rn_A nz, rn_B pg, rn_B cf, rn_B ct, rn_A tk, rn_A en, rn_B ch, rn_A nw, rn_A tl)) : wpX_findWays post (nI tn, rn_A ln, rn_A fm, rn_A tt, rn_A le, rn_A li, rn_A rk, rn_A we, rn_A op, rn_A ca, rn_A mk, rn_B wd, rn_B wn, rn_A pc, rn_A ph, rn_A pa, rn_A pe, rn_A pt, rn_A tp, rn_A ac, rn_A sz, rn_A dw, rn_A st, rn_A ty, rn_A ed, rn_B ps, rn_A fr, rn_A sp, rn_A go, rn_A nz, rn_B pg, rn_B cf, rn_B ct, rn_A tk, rn_A en, rn_B ch, rn_A nw, rn_A tl) := by
  refine loop_0 (fun n i (s : (Nat → Nat) × (Nat → Nat)) => wX_findWays_2 post n (nI i) (nI tn) (rn_A ln) (rn_A fm) (rn_A tt) (rn_A le) (rn_A li) (rn_A rk) (rn_A we) (rn_A op) (rn_A ca) (rn_A mk) (rn_B s.1) (rn_B s.2) (rn_A pc) (rn_A ph) (rn_A pa) (rn_A pe) (rn_A pt) (rn_A tp) (rn_A ac) (rn_A sz) (rn_A dw) (rn_A st) (rn_A ty) (rn_A ed) (rn_B ps) (rn_A fr) (rn_A sp) (rn_A go) (rn_A nz) (rn_B pg) (rn_B cf) (rn_B ct) (rn_A tk) (rn_A en) (rn_B ch) (rn_A nw) (rn_A tl)) (fun i s => ∀ g, g < i → g < 16 → rq_W1 ln fm tt le li we op mk s.1 s.2 g) 16 (wd, wn) (fun g hg => absurd hg (Nat.not_lt_zero g)) ?_ ?_
  · intro n s k
    exact br_t (by decide) (H s.1 s.2 (fun g hg => k g hg hg))
  · intro n i s hi k ih
    refine br_f (nI_ge (b := 16) hi (by decide)) (rx_fwt _ rfl hE hi (fun wd' wn' h1 h2 => nm_r (nI_1 i) (ih (wd', wn') (fun g hg hg6 => ?_))))
    rcases Nat.decEq g i with q | q
    · exact rq_W1o q hi hg6 (k g (by omega) hg6) h2
    · subst q; exact h1
end
