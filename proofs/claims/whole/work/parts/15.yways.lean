/-! Y: the ways, NEXT -/
theorem rn_or {a b : Nat} (ha : a ≤ 1) (hb : b ≤ 1) : nI a ||| nI b = nI (if a = 0 then b else 1) := by
  rcases Nat.eq_zero_or_pos a with z | z
  · subst z
    rcases Nat.eq_zero_or_pos b with w | w
    · subst w; decide
    · have : b = 1 := by omega
      subst this; decide
  · have : a = 1 := by omega
    subst this
    rcases Nat.eq_zero_or_pos b with w | w
    · subst w; decide
    · have : b = 1 := by omega
      subst this; decide
section
variable {ln fm tt le li rk we op ca mk wd wn fa pc ph pa pe pt se ls mo tp ac sz dw st ty ed fr sp go nz tk en ch nw ps pg cf ct la gr cr ne nl oe ol fl tl : Nat → Nat} {tn kn N : Nat} {th : Int32} {gp fs : Nat → Int32}
theorem ry_w82 (post : SY → Prop) {J : Int32 → Int32 → Int32 → Int32 → (Nat → Int32) → (Nat → Int32) → (Nat → Int32) → (Nat → Int32) → (Nat → Int32) → (Nat → Int32) → (Nat → Int32) → (Nat → Int32) → (Nat → Int32) → (Nat → Int32) → (Nat → Int32) → (Nat → Int32) → (Nat → Int32) → (Nat → Int32) → (Nat → Int32) → (Nat → Int32) → (Nat → Int32) → (Nat → Int32) → (Nat → Int32) → (Nat → Int32) → (Nat → Int32) → (Nat → Int32) → (Nat → Int32) → (Nat → Int32) → (Nat → Int32) → (Nat → Int32) → (Nat → Int32) → (Nat → Int32) → (Nat → Int32) → (Nat → Int32) → (Nat → Int32) → (Nat → Int32) → (Nat → Int32) → (Nat → Int32) → (Nat → Int32) → (Nat → Int32) → (Nat → Int32) → (Nat → Int32) → (Nat → Int32) → (Nat → Int32) → (Nat → Int32) → (Nat → Int32) → (Nat → Int32) → (Nat → Int32) → Prop} {fa0 : Nat → Nat} (hE : (rq_E ln fm tt le li rk we op mk))
    (H : ∀ b fa, b ≤ 1 → (ry_All (rq_K ln fm tt op mk) (rq_co le li we) ln fa) → (b = 0 → fa = fa0 ∧ ∀ k, k < 256 → (ry_At (rq_K ln fm tt op mk) (rq_co le li we) fa0) k) → (b = 1 → ry_sum fa 256 < ry_sum fa0 256) → J (nI b) (nI kn) (nI tn) th (rn_T ln) (rn_A op) (rn_A fm) (rn_A tt) (rn_A le) (rn_A ln) (rn_A li) (rn_A rk) (rn_A we) (rn_A ca) (rn_A mk) (rn_A fa) (rn_A tp) (rn_A ac) (rn_A sz) (rn_A dw) (rn_A st) (rn_A ty) (rn_A ed) (rn_A la) (rn_A fr) (rn_A sp) (rn_A go) (rn_A nz) (rn_A tk) (rn_C ch) (rn_A en) (rn_A nw) (rn_A gr) (rn_A cr) (rn_A ne) (rn_A nl) (rn_A oe) (rn_A ol) (rn_A fl) (rn_A pc) (rn_A ph) (rn_A pa) (rn_A se) (rn_A ls) (rn_A mo) (rn_A tl) gp fs) :
    ∀ n k b fa, k ≤ 256 → 256 - k < n → b ≤ 1 → (ry_All (rq_K ln fm tt op mk) (rq_co le li we) ln fa) → (b = 0 → fa = fa0 ∧ ∀ k', k' < k → (ry_At (rq_K ln fm tt op mk) (rq_co le li we) fa0) k') → (b = 1 → ry_sum fa 256 < ry_sum fa0 256) → wY_ways_82 post J n (nI b) (nI k) (nI kn) (nI tn) th (rn_T ln) (rn_A op) (rn_A fm) (rn_A tt) (rn_A le) (rn_A ln) (rn_A li) (rn_A rk) (rn_A we) (rn_A ca) (rn_A mk) (rn_A fa) (rn_A tp) (rn_A ac) (rn_A sz) (rn_A dw) (rn_A st) (rn_A ty) (rn_A ed) (rn_A la) (rn_A fr) (rn_A sp) (rn_A go) (rn_A nz) (rn_A tk) (rn_C ch) (rn_A en) (rn_A nw) (rn_A gr) (rn_A cr) (rn_A ne) (rn_A nl) (rn_A oe) (rn_A ol) (rn_A fl) (rn_A pc) (rn_A ph) (rn_A pa) (rn_A se) (rn_A ls) (rn_A mo) (rn_A tl) gp fs := by
  intro n
  induction n with
  | zero => intro k b fa h1 h2; omega
  | succ n ih =>
    intro k b fa hk hkn hb hA h0 h1
    refine pk_le 256 k (fun z => H b fa hb hA (fun w => ⟨(h0 w).1, fun k' hk' => (h0 w).2 k' (by omega)⟩) h1) (fun z => ⟨by decide, ?_⟩)
    have A := hE.1 (k % 16)
    have B := hE.1 (k / 16)
    have skip : (ry_At (rq_K ln fm tt op mk) (rq_co le li we) fa) k → wY_ways_82 post J n (nI b) (nI (k + 1)) (nI kn) (nI tn) th (rn_T ln) (rn_A op) (rn_A fm) (rn_A tt) (rn_A le) (rn_A ln) (rn_A li) (rn_A rk) (rn_A we) (rn_A ca) (rn_A mk) (rn_A fa) (rn_A tp) (rn_A ac) (rn_A sz) (rn_A dw) (rn_A st) (rn_A ty) (rn_A ed) (rn_A la) (rn_A fr) (rn_A sp) (rn_A go) (rn_A nz) (rn_A tk) (rn_C ch) (rn_A en) (rn_A nw) (rn_A gr) (rn_A cr) (rn_A ne) (rn_A nl) (rn_A oe) (rn_A ol) (rn_A fl) (rn_A pc) (rn_A ph) (rn_A pa) (rn_A se) (rn_A ls) (rn_A mo) (rn_A tl) gp fs := fun w => ih (k + 1) b fa (by omega) (by omega) hb hA (fun y => ⟨(h0 y).1, fun k' hk' => by
      rcases Nat.decEq k' k with q | q
      · exact (h0 y).2 k' (by omega)
      · subst q; rw [← (h0 y).1]; exact w⟩) h1
    have e1 : nI k - nI k / 16 * 16 = nI (k % 16) := pk_rem (d := 16) (by omega) (by omega) (by omega)
    have e2 : nI k / 16 = nI (k / 16) := pk_div (d := 16) (by omega) (by omega) (by omega)
    rw [e1]
    refine ⟨vp_in_nI (by omega) (by omega), ek_f (rn_TT (by omega)) (fun t1 => nm_r (nI_1 k) (skip (fun f _ _ hK _ => absurd hK.1 t1))) (fun t1 => ⟨by decide, ?_⟩)⟩
    rw [e2]
    refine ⟨vp_in_nI (by omega) (by omega), ek_f (rn_TT (by omega)) (fun t2 => nm_r (nI_1 k) (skip (fun f hf hn hK ht => absurd ht (ry_SupN (rq_hc hE) t2 (hA (k / 16) (by omega)) _ f hf (Nat.lt_succ_self _))))) (fun t2 => ⟨by decide, by decide, ?_⟩)⟩
    refine ry_shz _ rfl rfl hE (by omega) (by omega) (by omega) hA (fun r fa' hr hA' q0 q1 => nm_r (rn_or hb hr) (nm_r (nI_1 k) ?_))
    have ek : 16 * (k / 16) + k % 16 = k := by omega
    refine ih (k + 1) _ fa' (by omega) (by omega) (by split <;> omega) hA' (fun w => ?_) (fun w => ?_)
    · have b0 : b = 0 := by
        rcases Nat.eq_zero_or_pos b with q | q
        · exact q
        · rw [if_neg (by omega)] at w; omega
      rw [if_pos b0] at w
      obtain ⟨p1, p2⟩ := q0 w
      rw [ek] at p2
      refine ⟨p1.trans (h0 b0).1, fun k' hk' => ?_⟩
      rcases Nat.decEq k' k with q | q
      · exact (h0 b0).2 k' (by omega)
      · subst q; rw [← (h0 b0).1]; exact p2
    · rcases Nat.eq_zero_or_pos b with q | q
      · rw [if_pos q] at w
        rw [← (h0 q).1]; exact q1 w
      · have s1 := h1 (by omega)
        rcases Nat.eq_zero_or_pos r with p | p
        · rw [(q0 p).1]; exact s1
        · have := q1 (by omega); omega
theorem ry_w74 (post : SY → Prop) (hE : (rq_E ln fm tt le li rk we op mk)) (H : ∀ fa, (∀ g, g < 16 → ry_Bel (rq_K ln fm tt op mk) (rq_co le li we) g (0 < ln g) (fun e => fa (16 * g + e))) → post (nI kn, nI tn, th, rn_T ln, rn_A op, rn_A fm, rn_A tt, rn_A le, rn_A ln, rn_A li, rn_A rk, rn_A we, rn_A ca, rn_A mk, rn_A fa, rn_A tp, rn_A ac, rn_A sz, rn_A dw, rn_A st, rn_A ty, rn_A ed, rn_A la, rn_A fr, rn_A sp, rn_A go, rn_A nz, rn_A tk, rn_C ch, rn_A en, rn_A nw, rn_A gr, rn_A cr, rn_A ne, rn_A nl, rn_A oe, rn_A ol, rn_A fl, rn_A pc, rn_A ph, rn_A pa, rn_A se, rn_A ls, rn_A mo, rn_A tl, gp, fs)) : ∀ n fa, (ry_All (rq_K ln fm tt op mk) (rq_co le li we) ln fa) → ry_sum fa 256 + 1 < n → wY_ways_74 post n 1 (nI kn) (nI tn) th (rn_T ln) (rn_A op) (rn_A fm) (rn_A tt) (rn_A le) (rn_A ln) (rn_A li) (rn_A rk) (rn_A we) (rn_A ca) (rn_A mk) (rn_A fa) (rn_A tp) (rn_A ac) (rn_A sz) (rn_A dw) (rn_A st) (rn_A ty) (rn_A ed) (rn_A la) (rn_A fr) (rn_A sp) (rn_A go) (rn_A nz) (rn_A tk) (rn_C ch) (rn_A en) (rn_A nw) (rn_A gr) (rn_A cr) (rn_A ne) (rn_A nl) (rn_A oe) (rn_A ol) (rn_A fl) (rn_A pc) (rn_A ph) (rn_A pa) (rn_A se) (rn_A ls) (rn_A mo) (rn_A tl) gp fs := by
  intro n
  induction n with
  | zero => intro fa _ h; omega
  | succ n ih =>
    intro fa hA hs
    refine br_f (by decide) ⟨257, ry_w82 post (fa0 := fa) hE (fun b fa' hb hA' h0 h1 => ?_) 257 0 0 fa (by omega) (by omega) (by omega) hA (fun _ => ⟨rfl, fun k hk => absurd hk (Nat.not_lt_zero k)⟩) (fun w => by omega)⟩
    rcases Nat.eq_zero_or_pos b with q | q
    · subst q
      obtain ⟨m, rfl⟩ : ∃ m, n = m + 1 := ⟨n - 1, by omega⟩
      obtain ⟨p1, p2⟩ := h0 rfl
      subst p1
      exact br_t rfl (H fa' (ry_AllB hA' p2))
    · have b1 : b = 1 := by omega
      subst b1
      have := h1 rfl
      exact ih fa' hA' (by omega)
def ry_ini (ln : Nat → Nat) (k : Nat) : Nat := if k % 16 = k / 16 ∧ 0 < ln (k % 16) then 0 else 1000000
theorem ry_iniA (h : ∀ k, k < 256 → fa k = ry_ini ln k) : (ry_All (rq_K ln fm tt op mk) (rq_co le li we) ln fa) := by
  intro g hg
  have v : ∀ e, e < 16 → fa (16 * g + e) = if e = g ∧ 0 < ln e then 0 else 1000000 := by
    intro e he
    rw [h _ (by omega)]
    unfold ry_ini
    rw [show (16 * g + e) % 16 = e by omega, show (16 * g + e) / 16 = g by omega]
  refine ⟨fun e he => ?_, fun z => ?_, fun z => ?_, fun e he hn ht => ?_⟩
  · show fa (16 * g + e) ≤ 1000000
    rw [v e he]; split <;> omega
  · show fa (16 * g + g) = 0
    rw [v g hg, if_pos ⟨rfl, z⟩]
  · show fa (16 * g + g) = 1000000
    rw [v g hg, if_neg (fun w => z w.2)]
  · have : fa (16 * g + e) < 1000000 := ht
    rw [v e he, if_neg (fun w => hn w.1)] at this
    omega
theorem ry_w23 (post : SY → Prop) {J : Int32 → (Nat → Int32) → (Nat → Int32) → (Nat → Int32) → (Nat → Int32) → (Nat → Int32) → (Nat → Int32) → (Nat → Int32) → (Nat → Int32) → (Nat → Int32) → (Nat → Int32) → (Nat → Int32) → (Nat → Int32) → (Nat → Int32) → (Nat → Int32) → (Nat → Int32) → (Nat → Int32) → (Nat → Int32) → (Nat → Int32) → (Nat → Int32) → (Nat → Int32) → (Nat → Int32) → (Nat → Int32) → (Nat → Int32) → (Nat → Int32) → (Nat → Int32) → (Nat → Int32) → (Nat → Int32) → (Nat → Int32) → (Nat → Int32) → (Nat → Int32) → (Nat → Int32) → (Nat → Int32) → (Nat → Int32) → (Nat → Int32) → (Nat → Int32) → (Nat → Int32) → (Nat → Int32) → (Nat → Int32) → (Nat → Int32) → (Nat → Int32) → (Nat → Int32) → (Nat → Int32) → (Nat → Int32) → (Nat → Int32) → Prop} {g : Nat} (hg : g < 16)
    (H : ∀ fa, (∀ k, k < 16 * (g + 1) → fa k = ry_ini ln k) → J (nI (g + 1)) (rn_T ln) (rn_A op) (rn_A fm) (rn_A tt) (rn_A le) (rn_A ln) (rn_A li) (rn_A rk) (rn_A we) (rn_A ca) (rn_A mk) (rn_A fa) (rn_A tp) (rn_A ac) (rn_A sz) (rn_A dw) (rn_A st) (rn_A ty) (rn_A ed) (rn_A la) (rn_A fr) (rn_A sp) (rn_A go) (rn_A nz) (rn_A tk) (rn_C ch) (rn_A en) (rn_A nw) (rn_A gr) (rn_A cr) (rn_A ne) (rn_A nl) (rn_A oe) (rn_A ol) (rn_A fl) (rn_A pc) (rn_A ph) (rn_A pa) (rn_A se) (rn_A ls) (rn_A mo) (rn_A tl) gp fs) :
    ∀ n e fa, e ≤ 16 → 16 - e < n → (∀ k, k < 16 * g + e → fa k = ry_ini ln k) → wY_ways_23 post J (nI g) (nI kn) (nI tn) th n (nI e) (rn_T ln) (rn_A op) (rn_A fm) (rn_A tt) (rn_A le) (rn_A ln) (rn_A li) (rn_A rk) (rn_A we) (rn_A ca) (rn_A mk) (rn_A fa) (rn_A tp) (rn_A ac) (rn_A sz) (rn_A dw) (rn_A st) (rn_A ty) (rn_A ed) (rn_A la) (rn_A fr) (rn_A sp) (rn_A go) (rn_A nz) (rn_A tk) (rn_C ch) (rn_A en) (rn_A nw) (rn_A gr) (rn_A cr) (rn_A ne) (rn_A nl) (rn_A oe) (rn_A ol) (rn_A fl) (rn_A pc) (rn_A ph) (rn_A pa) (rn_A se) (rn_A ls) (rn_A mo) (rn_A tl) gp fs := by
  intro n
  induction n with
  | zero => intro e fa h1 h2; omega
  | succ n ih =>
    intro e fa he hen h0
    refine pk_le 16 e (fun z => nm_r (nI_1 g) (H fa (fun k hk => h0 k (by omega)))) (fun z => ?_)
    have ix : (16 : Int32) * nI g + nI e = nI (16 * g + e) := by rw [show (16 : Int32) * nI g = nI (16 * g) from pk_mul 16 _, nI_add]
    have go1 : ∀ x, x = ry_ini ln (16 * g + e) → wY_ways_23 post J (nI g) (nI kn) (nI tn) th n (nI (e + 1)) (rn_T ln) (rn_A op) (rn_A fm) (rn_A tt) (rn_A le) (rn_A ln) (rn_A li) (rn_A rk) (rn_A we) (rn_A ca) (rn_A mk) (rn_A (ru_p fa (16 * g + e) x)) (rn_A tp) (rn_A ac) (rn_A sz) (rn_A dw) (rn_A st) (rn_A ty) (rn_A ed) (rn_A la) (rn_A fr) (rn_A sp) (rn_A go) (rn_A nz) (rn_A tk) (rn_C ch) (rn_A en) (rn_A nw) (rn_A gr) (rn_A cr) (rn_A ne) (rn_A nl) (rn_A oe) (rn_A ol) (rn_A fl) (rn_A pc) (rn_A ph) (rn_A pa) (rn_A se) (rn_A ls) (rn_A mo) (rn_A tl) gp fs := fun x hx => ih (e + 1) _ (by omega) (by omega) (fun k hk => by
      rcases Nat.decEq k (16 * g + e) with q | q
      · rw [ru_n q]; exact h0 k (by omega)
      · subst q; rw [ru_s]; exact hx)
    have i1 : ry_ini ln (16 * g + e) = if e = g ∧ 0 < ln e then 0 else 1000000 := by
      unfold ry_ini
      rw [show (16 * g + e) % 16 = e by omega, show (16 * g + e) / 16 = g by omega]
    refine ek_f (rn_e rfl rfl (by omega) (by omega)) (fun k1 => ⟨pk_in e 16 z, ?_⟩) (fun k1 => ?_)
    · rw [ix]
      refine ek_f (rn_TT (by omega)) (fun k2 => ⟨vp_in_nI (by omega) (by omega), nm_r (rn_uA (x := 1000000) (by omega)) (nm_r (nI_1 e) (go1 _ (by rw [i1, if_neg (fun w => k2 w.2)])))⟩) (fun k2 => ⟨vp_in_nI (by omega) (by omega), nm_r (rn_uA (x := 0) (by omega)) (nm_r (nI_1 e) (go1 _ (by rw [i1, if_pos ⟨k1, Classical.not_not.mp k2⟩])))⟩)
    · rw [ix]
      exact ⟨vp_in_nI (by omega) (by omega), nm_r (rn_uA (x := 1000000) (by omega)) (nm_r (nI_1 e) (go1 _ (by rw [i1, if_neg (fun w => k1 w.1)])))⟩
theorem ry_w15 (post : SY → Prop) (hE : (rq_E ln fm tt le li rk we op mk)) (H : ∀ fa, (∀ g, g < 16 → ry_Bel (rq_K ln fm tt op mk) (rq_co le li we) g (0 < ln g) (fun e => fa (16 * g + e))) → post (nI kn, nI tn, th, rn_T ln, rn_A op, rn_A fm, rn_A tt, rn_A le, rn_A ln, rn_A li, rn_A rk, rn_A we, rn_A ca, rn_A mk, rn_A fa, rn_A tp, rn_A ac, rn_A sz, rn_A dw, rn_A st, rn_A ty, rn_A ed, rn_A la, rn_A fr, rn_A sp, rn_A go, rn_A nz, rn_A tk, rn_C ch, rn_A en, rn_A nw, rn_A gr, rn_A cr, rn_A ne, rn_A nl, rn_A oe, rn_A ol, rn_A fl, rn_A pc, rn_A ph, rn_A pa, rn_A se, rn_A ls, rn_A mo, rn_A tl, gp, fs)) : ∀ n g fa, g ≤ 16 → 16 - g < n → (∀ k, k < 16 * g → fa k = ry_ini ln k) → wY_ways_15 post (nI kn) (nI tn) th n (nI g) (rn_T ln) (rn_A op) (rn_A fm) (rn_A tt) (rn_A le) (rn_A ln) (rn_A li) (rn_A rk) (rn_A we) (rn_A ca) (rn_A mk) (rn_A fa) (rn_A tp) (rn_A ac) (rn_A sz) (rn_A dw) (rn_A st) (rn_A ty) (rn_A ed) (rn_A la) (rn_A fr) (rn_A sp) (rn_A go) (rn_A nz) (rn_A tk) (rn_C ch) (rn_A en) (rn_A nw) (rn_A gr) (rn_A cr) (rn_A ne) (rn_A nl) (rn_A oe) (rn_A ol) (rn_A fl) (rn_A pc) (rn_A ph) (rn_A pa) (rn_A se) (rn_A ls) (rn_A mo) (rn_A tl) gp fs := by
  intro n
  induction n with
  | zero => intro g fa h1 h2; omega
  | succ n ih =>
    intro g fa hg hgn h0
    refine pk_le 16 g (fun z => ⟨ry_sum fa 256 + 2, ry_w74 post hE H _ fa (ry_iniA (fun k hk => h0 k (by omega))) (by omega)⟩) (fun z => ⟨17, ?_⟩)
    exact ry_w23 post z (fun fa' h' => ih (g + 1) fa' (by omega) (by omega) h') 17 0 fa (by omega) (by omega) (fun k hk => h0 k (by omega))
theorem ry_ways (post : SY → Prop) (hE : (rq_E ln fm tt le li rk we op mk)) (hW : (rq_WY ln fm tt le li we op mk fa kn)) (H : ∀ fa, (∀ g, g < 16 → ry_Bel (rq_K ln fm tt op mk) (rq_co le li we) g (0 < ln g) (fun e => fa (16 * g + e))) → post (nI 1, nI tn, th, rn_T ln, rn_A op, rn_A fm, rn_A tt, rn_A le, rn_A ln, rn_A li, rn_A rk, rn_A we, rn_A ca, rn_A mk, rn_A fa, rn_A tp, rn_A ac, rn_A sz, rn_A dw, rn_A st, rn_A ty, rn_A ed, rn_A la, rn_A fr, rn_A sp, rn_A go, rn_A nz, rn_A tk, rn_C ch, rn_A en, rn_A nw, rn_A gr, rn_A cr, rn_A ne, rn_A nl, rn_A oe, rn_A ol, rn_A fl, rn_A pc, rn_A ph, rn_A pa, rn_A se, rn_A ls, rn_A mo, rn_A tl, gp, fs)) : wpY_ways post (nI kn, nI tn, th, rn_T ln, rn_A op, rn_A fm, rn_A tt, rn_A le, rn_A ln, rn_A li, rn_A rk, rn_A we, rn_A ca, rn_A mk, rn_A fa, rn_A tp, rn_A ac, rn_A sz, rn_A dw, rn_A st, rn_A ty, rn_A ed, rn_A la, rn_A fr, rn_A sp, rn_A go, rn_A nz, rn_A tk, rn_C ch, rn_A en, rn_A nw, rn_A gr, rn_A cr, rn_A ne, rn_A nl, rn_A oe, rn_A ol, rn_A fl, rn_A pc, rn_A ph, rn_A pa, rn_A se, rn_A ls, rn_A mo, rn_A tl, gp, fs) := by
  rcases hW with z | ⟨z, h⟩
  · subst z
    refine br_t rfl ⟨17, ?_⟩
    exact ry_w15 (kn := 1) post hE H 17 0 fa (by omega) (by omega) (fun k hk => by omega)
  · subst z
    exact br_f (by decide) (H fa h)
theorem ry_next (post : Int32 → SY → Prop) {e g : Nat} {x y : Int32} (hx : x = nI e) (hy : y = nI g) (hE : (rq_E ln fm tt le li rk we op mk)) (hX : (rq_WX ln fm tt le li we op mk wd wn)) (hW : (rq_WY ln fm tt le li we op mk fa kn)) (he : e < 16) (hg : g < 16)
    (H : ∀ fa, (∀ g, g < 16 → ry_Bel (rq_K ln fm tt op mk) (rq_co le li we) g (0 < ln g) (fun e => fa (16 * g + e))) → post (rn_c (wn (16 * e + g))) (nI 1, nI tn, th, rn_T ln, rn_A op, rn_A fm, rn_A tt, rn_A le, rn_A ln, rn_A li, rn_A rk, rn_A we, rn_A ca, rn_A mk, rn_A fa, rn_A tp, rn_A ac, rn_A sz, rn_A dw, rn_A st, rn_A ty, rn_A ed, rn_A la, rn_A fr, rn_A sp, rn_A go, rn_A nz, rn_A tk, rn_C ch, rn_A en, rn_A nw, rn_A gr, rn_A cr, rn_A ne, rn_A nl, rn_A oe, rn_A ol, rn_A fl, rn_A pc, rn_A ph, rn_A pa, rn_A se, rn_A ls, rn_A mo, rn_A tl, gp, fs)) : wpY_next post (nI kn, nI tn, th, rn_T ln, rn_A op, rn_A fm, rn_A tt, rn_A le, rn_A ln, rn_A li, rn_A rk, rn_A we, rn_A ca, rn_A mk, rn_A fa, rn_A tp, rn_A ac, rn_A sz, rn_A dw, rn_A st, rn_A ty, rn_A ed, rn_A la, rn_A fr, rn_A sp, rn_A go, rn_A nz, rn_A tk, rn_C ch, rn_A en, rn_A nw, rn_A gr, rn_A cr, rn_A ne, rn_A nl, rn_A oe, rn_A ol, rn_A fl, rn_A pc, rn_A ph, rn_A pa, rn_A se, rn_A ls, rn_A mo, rn_A tl, gp, fs) x y := by
  subst hx hy
  unfold wpY_next
  refine ry_ways _ hE hW (fun fa hF => ?_)
  have hp := H fa hF
  have F1 : ∀ i, i < 16 → fa (16 * g + i) ≤ 1000000 := fun i hi => (hF g hg).1.1 i hi
  refine ek_f (rn_e rfl rfl (by omega) (by omega)) (fun k1 => ?_) (fun k1 => ?_)
  · obtain ⟨T, t1, t2, t3, t4, t5⟩ := hX g hg
    rw [t4 e he k1] at hp
    exact hp
  · have ix : ∀ i, (16 : Int32) * nI g + nI i = nI (16 * g + i) := fun i => by rw [show (16 : Int32) * nI g = nI (16 * g) from pk_mul 16 _, nI_add]
    have V1 := F1 e he
    obtain ⟨n0, n1⟩ := rq_nextY hE hX hg (hF g hg) he k1
    rw [ix, rn_rA (by omega)]
    refine ⟨vp_in_nI (by omega) (by omega), pk_lt (fa (16 * g + e)) 1000000 (fun k2 => ?_) (fun k2 => ?_)⟩
    · rcases Nat.eq_zero_or_pos (wn (16 * e + g)) with q | q
      · exact absurd k2 (n0 q)
      · obtain ⟨f0, hf0⟩ : ∃ f0, wn (16 * e + g) = f0 + 1 := ⟨wn (16 * e + g) - 1, by omega⟩
        obtain ⟨a1, a2, a3, a4, a5, a6⟩ := n1 f0 hf0
        rw [hf0] at hp
        refine loop_0 (fun n i (_ : Unit) => wY_next_30 post (nI e) (nI g) (nI 1) (nI tn) th (rn_T ln) (rn_A op) (rn_A fm) (rn_A tt) (rn_A le) (rn_A ln) (rn_A li) (rn_A rk) (rn_A we) (rn_A ca) (rn_A mk) (rn_A fa) (rn_A tp) (rn_A ac) (rn_A sz) (rn_A dw) (rn_A st) (rn_A ty) (rn_A ed) (rn_A la) (rn_A fr) (rn_A sp) (rn_A go) (rn_A nz) (rn_A tk) (rn_C ch) (rn_A en) (rn_A nw) (rn_A gr) (rn_A cr) (rn_A ne) (rn_A nl) (rn_A oe) (rn_A ol) (rn_A fl) (rn_A pc) (rn_A ph) (rn_A pa) (rn_A se) (rn_A ls) (rn_A mo) (rn_A tl) gp fs n (nI i)) (fun i _ => i ≤ f0) 16 () (by omega) (fun n _ w => by omega) ?_
        intro n i _ hi hi0 ih
        have V2 := F1 i hi
        have A := hE.1 i
        have B3 := rq_Kf a3
        have B4 := hE.1 f0
        have stp : i ≠ f0 → wY_next_30 post (nI e) (nI g) (nI 1) (nI tn) th (rn_T ln) (rn_A op) (rn_A fm) (rn_A tt) (rn_A le) (rn_A ln) (rn_A li) (rn_A rk) (rn_A we) (rn_A ca) (rn_A mk) (rn_A fa) (rn_A tp) (rn_A ac) (rn_A sz) (rn_A dw) (rn_A st) (rn_A ty) (rn_A ed) (rn_A la) (rn_A fr) (rn_A sp) (rn_A go) (rn_A nz) (rn_A tk) (rn_C ch) (rn_A en) (rn_A nw) (rn_A gr) (rn_A cr) (rn_A ne) (rn_A nl) (rn_A oe) (rn_A ol) (rn_A fl) (rn_A pc) (rn_A ph) (rn_A pa) (rn_A se) (rn_A ls) (rn_A mo) (rn_A tl) gp fs n (nI (i + 1)) := fun w => ih () (by omega)
        refine br_f (nI_ge (b := 16) hi (by decide)) ⟨pk_in i 16 hi, ?_⟩
        refine ek_f (rn_e (rn_rA (by omega)) (b := 0) rfl (by omega) (by omega)) (fun m1 => br_t rfl (nm_r (nI_1 i) (stp (fun w => by subst w; omega)))) (fun m1 => ?_)
        rw [ix, rn_rA (by omega)]
        refine ⟨vp_in_nI (by omega) (by omega), pk_le 1000000 (fa (16 * g + i)) (fun m2 => br_t rfl (nm_r (nI_1 i) (stp (fun w => by subst w; exact absurd a4 (by show ¬ fa (16 * g + i) < 1000000; omega))))) (fun m2 => ?_)⟩
        refine ry_lt _ rfl rfl hE he hi (rb_b (fun m3 => br_t rfl (nm_r (nI_1 i) (stp (fun w => by subst w; exact m3 a3.2.2)))) (fun m3 => br_f (by decide) ?_))
        have hK : (rq_K ln fm tt op mk) e i := ⟨a3.1, by omega, m3⟩
        have hli := (rq_Kf hK).1
        have hco := rq_coB hE hli
        rw [ix, rn_rA (by omega)]
        refine ⟨vp_in_nI (by omega) (by omega), ry_co _ rfl hE hi hli ?_⟩
        rw [ix, rn_rA (by omega), nI_add]
        refine ⟨vp_in_nI (by omega) (by omega), ek_f (rn_e rfl rfl (by omega) (by omega)) (fun m4 => ?_) (fun m4 => nm_r (nI_1 i) (stp (fun w => by subst w; exact m4 a5)))⟩
        rcases Nat.decEq i f0 with w | w
        · exact absurd m4 (a6 i (by omega) hK m2)
        · subst w; exact hp
    · rcases Nat.eq_zero_or_pos (wn (16 * e + g)) with q | q
      · rw [q] at hp; exact hp
      · have := (n1 (wn (16 * e + g) - 1) (by omega)).1
        have : fa (16 * g + e) < 1000000 := this
        omega
theorem ry_nxo (post : Int32 → SY → Prop) {c : Nat} {x : Int32} (hx : x = nI c) (I : (rq_L ln fm tt le li rk we op mk wd wn pc ph pa pe pt se ls mo tp ac sz dw st ty ed fr sp go tk en ch ps pg cf ct la gr cr ne nl oe ol fl tl tn N)) (hW : (rq_WY ln fm tt le li we op mk fa kn)) (hc : c < 32) (H : ∀ kn fa, (rq_WY ln fm tt le li we op mk fa kn) → post (rn_c ((rq_nx wn ed go) c)) (nI kn, nI tn, th, rn_T ln, rn_A op, rn_A fm, rn_A tt, rn_A le, rn_A ln, rn_A li, rn_A rk, rn_A we, rn_A ca, rn_A mk, rn_A fa, rn_A tp, rn_A ac, rn_A sz, rn_A dw, rn_A st, rn_A ty, rn_A ed, rn_A la, rn_A fr, rn_A sp, rn_A go, rn_A nz, rn_A tk, rn_C ch, rn_A en, rn_A nw, rn_A gr, rn_A cr, rn_A ne, rn_A nl, rn_A oe, rn_A ol, rn_A fl, rn_A pc, rn_A ph, rn_A pa, rn_A se, rn_A ls, rn_A mo, rn_A tl, gp, fs)) : wpY_nextOf post (nI kn, nI tn, th, rn_T ln, rn_A op, rn_A fm, rn_A tt, rn_A le, rn_A ln, rn_A li, rn_A rk, rn_A we, rn_A ca, rn_A mk, rn_A fa, rn_A tp, rn_A ac, rn_A sz, rn_A dw, rn_A st, rn_A ty, rn_A ed, rn_A la, rn_A fr, rn_A sp, rn_A go, rn_A nz, rn_A tk, rn_C ch, rn_A en, rn_A nw, rn_A gr, rn_A cr, rn_A ne, rn_A nl, rn_A oe, rn_A ol, rn_A fl, rn_A pc, rn_A ph, rn_A pa, rn_A se, rn_A ls, rn_A mo, rn_A tl, gp, fs) x := by
  subst hx
  have A := rI_c I c
  refine ⟨pk_in c 32 hc, pk_in c 32 hc, ry_next _ (rn_rA (by omega)) (rn_rA (by omega)) I.1 I.2.2.2.2.1 hW A.2.2.1 A.2.2.2.1 (fun fa hF => H 1 fa (Or.inr ⟨rfl, hF⟩))⟩
end
