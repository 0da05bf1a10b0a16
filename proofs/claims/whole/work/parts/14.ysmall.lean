/-! Y: the small ones, the ways -/
theorem rn_nb {b : Nat} (h : b ≤ 1) : narrow .boolean (.int (nI b)) = .int (nI b) := by
  rcases Nat.eq_zero_or_pos b with z | z
  · subst z; rfl
  · have : b = 1 := by omega
    subst this; rfl
section
variable {ln fm tt le li rk we op ca mk wd wn fa pc ph pa pe pt se ls mo tp ac sz dw st ty ed fr sp go nz tk en ch nw ps pg cf ct la gr cr ne nl oe ol fl tl : Nat → Nat} {tn kn N : Nat} {th : Int32} {gp fs : Nat → Int32}
theorem ry_in (post : Int32 → Prop) (x a b : Int32) (h : post (rb_ (¬ x < a ∧ ¬ b < x))) : wpY_in post x a b := by
  refine br_c (fun k => ?_) (fun k => br_c (fun k2 => ?_) (fun k2 => ?_))
  · exact rb_p0 h (fun w => w.1 k)
  · exact rb_p0 h (fun w => w.2 k2)
  · exact rb_p1 h ⟨k, k2⟩
theorem ry_ie (post : Int32 → Prop) (x : Int32) (h : post (rb_ (rq_th ln x))) : wpY_isEdge post (nI kn, nI tn, th, rn_T ln, rn_A op, rn_A fm, rn_A tt, rn_A le, rn_A ln, rn_A li, rn_A rk, rn_A we, rn_A ca, rn_A mk, rn_A fa, rn_A tp, rn_A ac, rn_A sz, rn_A dw, rn_A st, rn_A ty, rn_A ed, rn_A la, rn_A fr, rn_A sp, rn_A go, rn_A nz, rn_A tk, rn_C ch, rn_A en, rn_A nw, rn_A gr, rn_A cr, rn_A ne, rn_A nl, rn_A oe, rn_A ol, rn_A fl, rn_A pc, rn_A ph, rn_A pa, rn_A se, rn_A ls, rn_A mo, rn_A tl, gp, fs) x := by
  unfold wpY_isEdge
  refine ry_in _ x 0 15 (rb_b (fun k => ?_) (fun k => ?_))
  · exact rb_p0 h (fun ⟨e, e1, e2, _⟩ => k ⟨(rn_o e2 e1 (by omega)).1, by rw [e2]; exact nI_nlt (b := e) (a := 15) (by omega) (by omega)⟩)
  · obtain ⟨e, he, rfl⟩ := nI_of k.1
    have e6 : e < 16 := by
      rcases Nat.lt_or_ge e 16 with z | z
      · exact z
      · exact absurd (nI_lt (a := 15) z he) k.2
    refine ⟨pk_in e 16 e6, ek_f (rn_TT (by omega)) (fun z => ?_) (fun z => ?_)⟩
    · exact rb_p0 h (fun ⟨d, d1, d2, d3⟩ => by rw [nI_eq (by omega) (by omega)] at d2; subst d2; omega)
    · exact rb_p1 h ⟨e, e6, rfl, by omega⟩
theorem ry_sz (post : Int32 → Prop) {c : Nat} {x : Int32} (hx : x = nI c) (hc : c < 32) (hT : ∀ c, ty c < 4) (h : post (nI (sz (ty c)))) : wpY_sizeOf post (nI kn, nI tn, th, rn_T ln, rn_A op, rn_A fm, rn_A tt, rn_A le, rn_A ln, rn_A li, rn_A rk, rn_A we, rn_A ca, rn_A mk, rn_A fa, rn_A tp, rn_A ac, rn_A sz, rn_A dw, rn_A st, rn_A ty, rn_A ed, rn_A la, rn_A fr, rn_A sp, rn_A go, rn_A nz, rn_A tk, rn_C ch, rn_A en, rn_A nw, rn_A gr, rn_A cr, rn_A ne, rn_A nl, rn_A oe, rn_A ol, rn_A fl, rn_A pc, rn_A ph, rn_A pa, rn_A se, rn_A ls, rn_A mo, rn_A tl, gp, fs) x := by
  subst hx
  have A := hT c
  refine ⟨pk_in c 32 hc, ?_⟩
  rw [rn_rA (by omega), rn_rA (by omega)]
  exact ⟨vp_in_nI A (by omega), h⟩
theorem ry_gp (post : Int32 → Prop) {c a : Nat} {x y : Int32} (hx : x = nI c) (hy : y = nI a) (hT : ∀ c, ty c < 4) (hc : c < 32) (ha : a < 32) (h : post (ri_z ((fr a : Int) - sz (ty a) - 1 - fr c))) : wpY_gapTo post (nI kn, nI tn, th, rn_T ln, rn_A op, rn_A fm, rn_A tt, rn_A le, rn_A ln, rn_A li, rn_A rk, rn_A we, rn_A ca, rn_A mk, rn_A fa, rn_A tp, rn_A ac, rn_A sz, rn_A dw, rn_A st, rn_A ty, rn_A ed, rn_A la, rn_A fr, rn_A sp, rn_A go, rn_A nz, rn_A tk, rn_C ch, rn_A en, rn_A nw, rn_A gr, rn_A cr, rn_A ne, rn_A nl, rn_A oe, rn_A ol, rn_A fl, rn_A pc, rn_A ph, rn_A pa, rn_A se, rn_A ls, rn_A mo, rn_A tl, gp, fs) x y := by
  subst hx hy
  refine ⟨pk_in a 32 ha, ry_sz _ rfl ha hT ⟨pk_in c 32 hc, ?_⟩⟩
  rw [rn_rA (by omega), rn_rA (by omega), ri_n, ri_n, ri_n, ri_sub, show (1 : Int32) = ri_z 1 from ri_n 1, ri_sub, ri_sub]
  exact h
theorem ry_ld (post : Int32 → Prop) {e l f : Nat} {x y w : Int32} (hx : x = nI e) (hy : y = nI l) (hw : w = nI f) (hE : (rq_E ln fm tt le li rk we op mk)) (he : e < 16) (hl : l ≤ 1) (hf : f < 16) (h : post (rb_ ((rq_ld ln fm tt mk) (2 * e + l) f))) : wpY_leads post (nI kn, nI tn, th, rn_T ln, rn_A op, rn_A fm, rn_A tt, rn_A le, rn_A ln, rn_A li, rn_A rk, rn_A we, rn_A ca, rn_A mk, rn_A fa, rn_A tp, rn_A ac, rn_A sz, rn_A dw, rn_A st, rn_A ty, rn_A ed, rn_A la, rn_A fr, rn_A sp, rn_A go, rn_A nz, rn_A tk, rn_C ch, rn_A en, rn_A nw, rn_A gr, rn_A cr, rn_A ne, rn_A nl, rn_A oe, rn_A ol, rn_A fl, rn_A pc, rn_A ph, rn_A pa, rn_A se, rn_A ls, rn_A mo, rn_A tl, gp, fs) x y w := by
  subst hx hy hw
  have A := hE.1 f
  have B := hE.1 e
  have C := hE.1 (2 * e + l)
  have q : (2 * e + l) / 2 = e := by omega
  refine ⟨pk_in f 16 hf, ek_f (rn_TT (by omega)) (fun z => ?_) (fun z => ⟨pk_in f 16 hf, pk_in e 16 he, ?_⟩)⟩
  · exact rb_p0 h (fun w => z w.1)
  · refine ek_f (rn_e (rn_rA (by omega)) (rn_rA (by omega)) (by omega) (by omega)) (fun e3 => ?_) (fun e3 => rb_p0 h (fun w => e3 (by have := w.2.1; rw [q] at this; exact this)))
    rw [show (2 : Int32) * nI e = nI (2 * e) from pk_mul 2 e, nI_add, rn_rA (by omega)]
    exact ⟨vp_in_nI (by omega) (by omega), ek_f (rd_bt1 (by omega) (by omega)) (fun e4 => rb_p1 h ⟨Classical.not_not.mp z, by rw [q]; exact e3, e4⟩) (fun e4 => rb_p0 h (fun w => e4 w.2.2))⟩
theorem ry_lt (post : Int32 → Prop) {e f : Nat} {x y : Int32} (hx : x = nI e) (hy : y = nI f) (hE : (rq_E ln fm tt le li rk we op mk)) (he : e < 16) (hf : f < 16) (h : post (rb_ ((rq_el ln fm tt mk) e f))) : wpY_leadsTo post (nI kn, nI tn, th, rn_T ln, rn_A op, rn_A fm, rn_A tt, rn_A le, rn_A ln, rn_A li, rn_A rk, rn_A we, rn_A ca, rn_A mk, rn_A fa, rn_A tp, rn_A ac, rn_A sz, rn_A dw, rn_A st, rn_A ty, rn_A ed, rn_A la, rn_A fr, rn_A sp, rn_A go, rn_A nz, rn_A tk, rn_C ch, rn_A en, rn_A nw, rn_A gr, rn_A cr, rn_A ne, rn_A nl, rn_A oe, rn_A ol, rn_A fl, rn_A pc, rn_A ph, rn_A pa, rn_A se, rn_A ls, rn_A mo, rn_A tl, gp, fs) x y := by
  subst hx hy
  have A := hE.1 e
  unfold wpY_leadsTo
  refine ry_ld _ (l := 0) rfl rfl rfl hE he (by omega) hf ?_
  refine rb_b (fun k1 => ⟨pk_in e 16 he, ?_⟩) (fun k1 => rb_p1 h (Or.inl k1))
  refine ek_f (rn_e (rn_rA (by omega)) (b := 2) rfl (by omega) (by omega)) (fun e2 => ?_) (fun e2 => rb_p0 h (fun w => w.elim k1 (fun v => e2 v.1)))
  refine ry_ld _ (l := 1) rfl rfl rfl hE he (by omega) hf ?_
  exact rb_b (fun k2 => rb_p0 h (fun w => w.elim k1 (fun v => k2 v.2))) (fun k2 => rb_p1 h (Or.inr ⟨e2, k2⟩))
theorem ry_co (post : Int32 → Prop) {e : Nat} {x : Int32} (hx : x = nI e) (hE : (rq_E ln fm tt le li rk we op mk)) (he : e < 16) (ht : 0 < ln e) (h : post (nI ((rq_co le li we) e))) : wpY_cost post (nI kn, nI tn, th, rn_T ln, rn_A op, rn_A fm, rn_A tt, rn_A le, rn_A ln, rn_A li, rn_A rk, rn_A we, rn_A ca, rn_A mk, rn_A fa, rn_A tp, rn_A ac, rn_A sz, rn_A dw, rn_A st, rn_A ty, rn_A ed, rn_A la, rn_A fr, rn_A sp, rn_A go, rn_A nz, rn_A tk, rn_C ch, rn_A en, rn_A nw, rn_A gr, rn_A cr, rn_A ne, rn_A nl, rn_A oe, rn_A ol, rn_A fl, rn_A pc, rn_A ph, rn_A pa, rn_A se, rn_A ls, rn_A mo, rn_A tl, gp, fs) x := by
  subst hx
  have A := hE.1 e
  have B := hE.2.1 e ht
  refine ⟨pk_in e 16 he, pk_in e 16 he, pk_in e 16 he, ?_⟩
  rw [rn_rA (by omega), rn_rA (by omega), rn_rA (by omega)]
  refine ⟨nI_ne0 (by omega) (by omega), pk_in e 16 he, ?_⟩
  rw [nI_add, show (1 : Int32) = nI 1 from rfl, pk_sub (by omega), pk_div (by omega) (by omega) (by omega), nI_add]
  exact h
theorem ry_gn (post : Int32 → Prop) {e : Nat} {x : Int32} (hx : x = nI e) (hE : (rq_E ln fm tt le li rk we op mk)) (hP : (rq_P pc ph pa pe pt se ls mo N)) (he : e < 16) (h : post (rb_ ((rq_gn tt pc ph pe) e))) : wpY_isGreen post (nI kn, nI tn, th, rn_T ln, rn_A op, rn_A fm, rn_A tt, rn_A le, rn_A ln, rn_A li, rn_A rk, rn_A we, rn_A ca, rn_A mk, rn_A fa, rn_A tp, rn_A ac, rn_A sz, rn_A dw, rn_A st, rn_A ty, rn_A ed, rn_A la, rn_A fr, rn_A sp, rn_A go, rn_A nz, rn_A tk, rn_C ch, rn_A en, rn_A nw, rn_A gr, rn_A cr, rn_A ne, rn_A nl, rn_A oe, rn_A ol, rn_A fl, rn_A pc, rn_A ph, rn_A pa, rn_A se, rn_A ls, rn_A mo, rn_A tl, gp, fs) x := by
  subst hx
  have A := hE.1 e
  obtain ⟨p1, p2, p3, p4, p5⟩ := hP (tt e) (by omega)
  refine ⟨pk_in e 16 he, nm_r (rn_rA (by omega)) ⟨vp_in_nI (by omega) (by omega), ?_⟩⟩
  refine ek_f (rn_e (rn_rA (by omega)) (b := 0) rfl (by omega) (by omega)) (fun k => rb_p1 h (Or.inl k)) (fun k => ⟨vp_in_nI (by omega) (by omega), ?_⟩)
  have q := p3 (by omega)
  have r := p5 _ q
  unfold rq_gn at h
  rw [r.1] at h
  rw [rn_rA (by omega), show (4 : Int32) * nI (tt e) = nI (4 * tt e) from pk_mul 4 _, nI_add, rn_rA (by omega)]
  exact ⟨vp_in_nI (by omega) (by omega), ek_f (rd_bt1 (by omega) (by omega)) (fun k2 => rb_p1 h (Or.inr k2)) (fun k2 => rb_p0 h (fun w => w.elim k k2))⟩
/-! shorten -/
theorem ry_sh5 (post : Int32 → SY → Prop) {g e : Nat} {fa0 : Nat → Nat} (hE : (rq_E ln fm tt le li rk we op mk)) (hg : g < 16) (he : e < 16) (hte : 0 < ln e) (hn : e ≠ g)
    (H : ∀ b fa, b ≤ 1 → (ry_All (rq_K ln fm tt op mk) (rq_co le li we) ln fa) → (b = 0 → fa = fa0 ∧ (ry_At (rq_K ln fm tt op mk) (rq_co le li we) fa0) (16 * g + e)) → (b = 1 → ry_sum fa 256 < ry_sum fa0 256) → post (nI b) (nI kn, nI tn, th, rn_T ln, rn_A op, rn_A fm, rn_A tt, rn_A le, rn_A ln, rn_A li, rn_A rk, rn_A we, rn_A ca, rn_A mk, rn_A fa, rn_A tp, rn_A ac, rn_A sz, rn_A dw, rn_A st, rn_A ty, rn_A ed, rn_A la, rn_A fr, rn_A sp, rn_A go, rn_A nz, rn_A tk, rn_C ch, rn_A en, rn_A nw, rn_A gr, rn_A cr, rn_A ne, rn_A nl, rn_A oe, rn_A ol, rn_A fl, rn_A pc, rn_A ph, rn_A pa, rn_A se, rn_A ls, rn_A mo, rn_A tl, gp, fs)) :
    ∀ n f b fa, f ≤ 16 → 16 - f < n → b ≤ 1 → (ry_All (rq_K ln fm tt op mk) (rq_co le li we) ln fa) → (b = 0 → fa = fa0 ∧ ∀ f', f' < f → (rq_K ln fm tt op mk) e f' → fa0 (16 * g + f') < 1000000 → fa0 (16 * g + e) ≤ fa0 (16 * g + f') + (rq_co le li we) f') → (b = 1 → ry_sum fa 256 < ry_sum fa0 256) →
    wY_shorten_5 post (nI g) (nI e) (nI kn) (nI tn) th n (nI b) (nI f) (rn_T ln) (rn_A op) (rn_A fm) (rn_A tt) (rn_A le) (rn_A ln) (rn_A li) (rn_A rk) (rn_A we) (rn_A ca) (rn_A mk) (rn_A fa) (rn_A tp) (rn_A ac) (rn_A sz) (rn_A dw) (rn_A st) (rn_A ty) (rn_A ed) (rn_A la) (rn_A fr) (rn_A sp) (rn_A go) (rn_A nz) (rn_A tk) (rn_C ch) (rn_A en) (rn_A nw) (rn_A gr) (rn_A cr) (rn_A ne) (rn_A nl) (rn_A oe) (rn_A ol) (rn_A fl) (rn_A pc) (rn_A ph) (rn_A pa) (rn_A se) (rn_A ls) (rn_A mo) (rn_A tl) gp fs := by
  intro n
  induction n with
  | zero => intro f b fa h1 h2; omega
  | succ n ih =>
    intro f b fa hf hfn hb hA h0 h1
    refine pk_le 16 f (fun z => ⟨rn_nb hb, H b fa hb hA (fun w => ⟨(h0 w).1, fun f' hf' hk hK ht => ?_⟩) h1⟩) (fun z => ?_)
    · have e1 : (16 * g + e) % 16 = e := by omega
      have e2 : (16 * g + e) / 16 = g := by omega
      rw [e1] at hK
      rw [e2] at ht ⊢
      exact (h0 w).2 f' (by omega) hK ht
    · have ix : ∀ i, (16 : Int32) * nI g + nI i = nI (16 * g + i) := fun i => by rw [show (16 : Int32) * nI g = nI (16 * g) from pk_mul 16 _, nI_add]
      have A := hE.1 f
      have V1 := (hA g hg).1 f (by omega)
      have V2 := (hA g hg).1 e he
      have V3 : fa (16 * g + f) ≤ 1000000 := V1
      have V4 : fa (16 * g + e) ≤ 1000000 := V2
      have skip : ∀ b fa, b ≤ 1 → (ry_All (rq_K ln fm tt op mk) (rq_co le li we) ln fa) → (b = 0 → fa = fa0 ∧ ∀ f', f' < f + 1 → (rq_K ln fm tt op mk) e f' → fa0 (16 * g + f') < 1000000 → fa0 (16 * g + e) ≤ fa0 (16 * g + f') + (rq_co le li we) f') → (b = 1 → ry_sum fa 256 < ry_sum fa0 256) → wY_shorten_5 post (nI g) (nI e) (nI kn) (nI tn) th n (nI b) (nI (f + 1)) (rn_T ln) (rn_A op) (rn_A fm) (rn_A tt) (rn_A le) (rn_A ln) (rn_A li) (rn_A rk) (rn_A we) (rn_A ca) (rn_A mk) (rn_A fa) (rn_A tp) (rn_A ac) (rn_A sz) (rn_A dw) (rn_A st) (rn_A ty) (rn_A ed) (rn_A la) (rn_A fr) (rn_A sp) (rn_A go) (rn_A nz) (rn_A tk) (rn_C ch) (rn_A en) (rn_A nw) (rn_A gr) (rn_A cr) (rn_A ne) (rn_A nl) (rn_A oe) (rn_A ol) (rn_A fl) (rn_A pc) (rn_A ph) (rn_A pa) (rn_A se) (rn_A ls) (rn_A mo) (rn_A tl) gp fs := fun b fa => ih (f + 1) b fa (by omega) (by omega)
      have no : ((rq_K ln fm tt op mk) e f → fa0 (16 * g + f) < 1000000 → fa0 (16 * g + e) ≤ fa0 (16 * g + f) + (rq_co le li we) f) → (b = 0 → fa = fa0 ∧ ∀ f', f' < f + 1 → (rq_K ln fm tt op mk) e f' → fa0 (16 * g + f') < 1000000 → fa0 (16 * g + e) ≤ fa0 (16 * g + f') + (rq_co le li we) f') := by
        intro k w
        refine ⟨(h0 w).1, fun f' hf' => ?_⟩
        rcases Nat.decEq f' f with q | q
        · exact (h0 w).2 f' (by omega)
        · subst q; exact k
      refine ek_f (rn_e rfl rfl (by omega) (by omega)) (fun k => absurd k hn) (fun _ => ⟨pk_in f 16 z, ?_⟩)
      refine ek_f (rn_e (rn_rA (by omega)) (b := 0) rfl (by omega) (by omega)) (fun k => br_t rfl (nm_r (nI_1 f) (skip b fa hb hA (no (fun w => by have := w.2.1; omega)) h1))) (fun k => ?_)
      rw [ix, rn_rA (by omega)]
      refine ⟨vp_in_nI (by omega) (by omega), pk_le 1000000 (fa (16 * g + f)) (fun k2 => br_t rfl (nm_r (nI_1 f) (skip b fa hb hA (fun w => no (fun _ v => by rw [← (h0 w).1] at v; omega) w) h1))) (fun k2 => ?_)⟩
      refine ry_lt _ rfl rfl hE he z (rb_b (fun k3 => br_t rfl (nm_r (nI_1 f) (skip b fa hb hA (no (fun w => absurd w.2.2 k3)) h1))) (fun k3 => br_f (by decide) ?_))
      have hK : (rq_K ln fm tt op mk) e f := ⟨hte, by omega, k3⟩
      have hlf := (rq_Kf hK).1
      have hco := rq_coB hE hlf
      rw [ix, rn_rA (by omega)]
      refine ⟨vp_in_nI (by omega) (by omega), ry_co _ rfl hE z hlf (nm_r (nI_add _ _) ?_)⟩
      rw [ix, rn_rA (by omega)]
      refine ⟨vp_in_nI (by omega) (by omega), pk_lt (fa (16 * g + f) + (rq_co le li we) f) (fa (16 * g + e)) (fun k4 => ⟨vp_in_nI (by omega) (by omega), nm_r (rn_uA (by omega)) (nm_r (nI_1 f) ?_)⟩) (fun k4 => nm_r (nI_1 f) (skip b fa hb hA (fun w => no (fun _ _ => by rw [← (h0 w).1]; omega) w) h1))⟩
      refine skip 1 _ (by omega) (ry_AllU hA hg he z hn hK k2 k4) (fun w => by omega) (fun _ => ?_)
      have s1 := ry_sumL (T := fa) (e := 16 * g + e) k4 (n := 256) (by omega)
      rcases Nat.eq_zero_or_pos b with q | q
      · rw [← (h0 q).1]; exact s1
      · have := h1 (by omega); omega
theorem ry_shz (post : Int32 → SY → Prop) {g e : Nat} {x y : Int32} (hx : x = nI g) (hy : y = nI e) (hE : (rq_E ln fm tt le li rk we op mk)) (hg : g < 16) (he : e < 16) (hte : 0 < ln e) (hA : (ry_All (rq_K ln fm tt op mk) (rq_co le li we) ln fa))
    (H : ∀ b fa', b ≤ 1 → (ry_All (rq_K ln fm tt op mk) (rq_co le li we) ln fa') → (b = 0 → fa' = fa ∧ (ry_At (rq_K ln fm tt op mk) (rq_co le li we) fa) (16 * g + e)) → (b = 1 → ry_sum fa' 256 < ry_sum fa 256) → post (nI b) (nI kn, nI tn, th, rn_T ln, rn_A op, rn_A fm, rn_A tt, rn_A le, rn_A ln, rn_A li, rn_A rk, rn_A we, rn_A ca, rn_A mk, rn_A fa', rn_A tp, rn_A ac, rn_A sz, rn_A dw, rn_A st, rn_A ty, rn_A ed, rn_A la, rn_A fr, rn_A sp, rn_A go, rn_A nz, rn_A tk, rn_C ch, rn_A en, rn_A nw, rn_A gr, rn_A cr, rn_A ne, rn_A nl, rn_A oe, rn_A ol, rn_A fl, rn_A pc, rn_A ph, rn_A pa, rn_A se, rn_A ls, rn_A mo, rn_A tl, gp, fs)) : wpY_shorten post (nI kn, nI tn, th, rn_T ln, rn_A op, rn_A fm, rn_A tt, rn_A le, rn_A ln, rn_A li, rn_A rk, rn_A we, rn_A ca, rn_A mk, rn_A fa, rn_A tp, rn_A ac, rn_A sz, rn_A dw, rn_A st, rn_A ty, rn_A ed, rn_A la, rn_A fr, rn_A sp, rn_A go, rn_A nz, rn_A tk, rn_C ch, rn_A en, rn_A nw, rn_A gr, rn_A cr, rn_A ne, rn_A nl, rn_A oe, rn_A ol, rn_A fl, rn_A pc, rn_A ph, rn_A pa, rn_A se, rn_A ls, rn_A mo, rn_A tl, gp, fs) x y := by
  subst hx hy
  rcases Nat.decEq e g with q | q
  · exact ⟨17, ry_sh5 post hE hg he hte q H 17 0 0 fa (by omega) (by omega) (by omega) hA (fun _ => ⟨rfl, fun f' hf' => absurd hf' (Nat.not_lt_zero f')⟩) (fun w => by omega)⟩
  · subst q
    refine ⟨1, br_f (nI_ge (a := 0) (b := 16) (by omega) (by omega)) (br_t rfl ⟨rn_nb (b := 0) (by omega), H 0 fa (by omega) hA (fun _ => ⟨rfl, fun f' hf' hk => ?_⟩) (fun w => by omega)⟩)⟩
    exact absurd (by omega) hk
end
