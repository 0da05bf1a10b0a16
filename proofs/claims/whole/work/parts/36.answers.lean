/-! run, way, road, of -/
theorem i_vc_run {k : Nat} {u : SX} {v : SY} (I : i_Rel k u v) (hk : k + 5 ≤ 2560) (v1 : Int32) : wpX_run (fun r u' => wpY_run (fun r' v' => r' = r ∧ i_Rel (k + 5) u' v') v v1) u v1 := by
  obtain ⟨ln, fm, tt, le, li, rk, we, op, ca, mk, wd, wn, fa, pc, ph, pa, pe, pt, se, ls, mo, tp, ac, sz, dw, st, ty, ed, fr, sp, go, nz, tk, en, ch, nw, ps, pg, cf, ct, la, gr, cr, ne, nl, oe, ol, fl, tl, tn, kn, N, th, gp, fs, rfl, rfl, I, hW, hN, hT⟩ := I
  rcases Classical.em (∃ n, n ≤ 20 ∧ v1 = nI n) with ⟨n, hn, rfl⟩ | hn
  · obtain ⟨ph', pa', ps', la', ch', tl', pg', gr', ne', nl', nz', nw', ca', st', ed', fr', sp', cf', ct', cr', oe', ol', fl', en', I', x, y⟩ := rl_run hn n 0 (by omega) ph pa ps la ch tl pg gr ne nl nz nw ca st ed fr sp cf ct cr oe ol fl en N I (by omega)
    refine br_f (nI_pos (by omega)) (br_t (nI_le (b := 20) hn (by decide)) ⟨n + 1, x _ ?_⟩)
    unfold wpY_run
    exact ry_in _ _ _ _ (rb_b (fun w => absurd ⟨nI_pos (by omega), nI_nlt (a := 20) hn (by decide)⟩ w) (fun _ => ⟨n + 1, y _ kn fa gp fs th hW (fun kn fa gp fs th hW' => ⟨rfl, rl_rel I' hW' (by omega) (by omega)⟩)⟩))
  · have yr : wpY_run (fun r' v' => r' = -1 ∧ i_Rel (k + 5) (nI tn, rn_A ln, rn_A fm, rn_A tt, rn_A le, rn_A li, rn_A rk, rn_A we, rn_A op, rn_A ca, rn_A mk, rn_B wd, rn_B wn, rn_A pc, rn_A ph, rn_A pa, rn_A pe, rn_A pt, rn_A tp, rn_A ac, rn_A sz, rn_A dw, rn_A st, rn_A ty, rn_A ed, rn_B ps, rn_A fr, rn_A sp, rn_A go, rn_A nz, rn_B pg, rn_B cf, rn_B ct, rn_A tk, rn_A en, rn_B ch, rn_A nw, rn_A tl) v') (nI kn, nI tn, th, rn_T ln, rn_A op, rn_A fm, rn_A tt, rn_A le, rn_A ln, rn_A li, rn_A rk, rn_A we, rn_A ca, rn_A mk, rn_A fa, rn_A tp, rn_A ac, rn_A sz, rn_A dw, rn_A st, rn_A ty, rn_A ed, rn_A la, rn_A fr, rn_A sp, rn_A go, rn_A nz, rn_A tk, rn_C ch, rn_A en, rn_A nw, rn_A gr, rn_A cr, rn_A ne, rn_A nl, rn_A oe, rn_A ol, rn_A fl, rn_A pc, rn_A ph, rn_A pa, rn_A se, rn_A ls, rn_A mo, rn_A tl, gp, fs) v1 := by
      unfold wpY_run
      refine ry_in _ _ _ _ (rb_b (fun _ => ⟨rfl, rl_rel I hW (by omega) (by omega)⟩) (fun w => ?_))
      obtain ⟨n, q, _, h2⟩ := rn_rg (a := 0) (b := 20) (by omega) (by omega) w.1 w.2
      exact absurd ⟨n, h2, q⟩ hn
    refine br_c (fun _ => yr) (fun k0 => br_c (fun k1 => ?_) (fun _ => yr))
    obtain ⟨n, q, _, h2⟩ := rn_rg (a := 0) (b := 20) (by omega) (by omega) k0 (Int32.not_lt.mpr k1)
    exact absurd ⟨n, h2, q⟩ hn
/-! way -/
theorem i_vc_way {k : Nat} {u : SX} {v : SY} (I : i_Rel k u v) (hk : k + 5 ≤ 2560) (v1 : Int32) (v2 : Int32) (v3 : Int32) : wpX_way (fun r => wpY_way (fun r' v' => r' = r ∧ i_Rel (k + 5) u v') v v1 v2 v3) u v1 v2 v3 := by
  obtain ⟨ln, fm, tt, le, li, rk, we, op, ca, mk, wd, wn, fa, pc, ph, pa, pe, pt, se, ls, mo, tp, ac, sz, dw, st, ty, ed, fr, sp, go, nz, tk, en, ch, nw, ps, pg, cf, ct, la, gr, cr, ne, nl, oe, ol, fl, tl, tn, kn, N, th, gp, fs, rfl, rfl, I, hW, hN, hT⟩ := I
  have R0 : i_Rel (k + 5) (nI tn, rn_A ln, rn_A fm, rn_A tt, rn_A le, rn_A li, rn_A rk, rn_A we, rn_A op, rn_A ca, rn_A mk, rn_B wd, rn_B wn, rn_A pc, rn_A ph, rn_A pa, rn_A pe, rn_A pt, rn_A tp, rn_A ac, rn_A sz, rn_A dw, rn_A st, rn_A ty, rn_A ed, rn_B ps, rn_A fr, rn_A sp, rn_A go, rn_A nz, rn_B pg, rn_B cf, rn_B ct, rn_A tk, rn_A en, rn_B ch, rn_A nw, rn_A tl) (nI kn, nI tn, th, rn_T ln, rn_A op, rn_A fm, rn_A tt, rn_A le, rn_A ln, rn_A li, rn_A rk, rn_A we, rn_A ca, rn_A mk, rn_A fa, rn_A tp, rn_A ac, rn_A sz, rn_A dw, rn_A st, rn_A ty, rn_A ed, rn_A la, rn_A fr, rn_A sp, rn_A go, rn_A nz, rn_A tk, rn_C ch, rn_A en, rn_A nw, rn_A gr, rn_A cr, rn_A ne, rn_A nl, rn_A oe, rn_A ol, rn_A fl, rn_A pc, rn_A ph, rn_A pa, rn_A se, rn_A ls, rn_A mo, rn_A tl, gp, fs) := rl_rel I hW (by omega) (by omega)
  have hl : ∀ e, ln e ≤ 2 := fun e => (rI_e I.1 e).1
  rcases Classical.em (rq_th ln v1 ∧ rq_th ln v2 ∧ (v3 = 0 ∨ v3 = 1)) with ⟨⟨e, he, rfl, hle⟩, ⟨g, hg, rfl, hlg⟩, h3⟩ | hn
  · have ix : (16 : Int32) * nI e + nI g = nI (16 * e + g) := by rw [show (16 : Int32) * nI e = nI (16 * e) from pk_mul 16 _, nI_add]
    have iy : (16 : Int32) * nI g + nI e = nI (16 * g + e) := by rw [show (16 : Int32) * nI g = nI (16 * g) from pk_mul 16 _, nI_add]
    have is : vp_in (nI (16 * e + g)) 256 := vp_in_nI (by omega) (by omega)
    have it : vp_in (nI (16 * g + e)) 256 := vp_in_nI (by omega) (by omega)
    have t1 : rq_th ln (nI e) := ⟨e, he, rfl, hle⟩
    have t2 : rq_th ln (nI g) := ⟨g, hg, rfl, hlg⟩
    -- Y's answer
    have ya : ∀ r : Int32, (v3 = 1 → r = rn_c (wn (16 * e + g))) → (v3 = 0 → r = rn_c (wd (16 * e + g))) → wpY_way (fun r' v' => r' = r ∧ i_Rel (k + 5) (nI tn, rn_A ln, rn_A fm, rn_A tt, rn_A le, rn_A li, rn_A rk, rn_A we, rn_A op, rn_A ca, rn_A mk, rn_B wd, rn_B wn, rn_A pc, rn_A ph, rn_A pa, rn_A pe, rn_A pt, rn_A tp, rn_A ac, rn_A sz, rn_A dw, rn_A st, rn_A ty, rn_A ed, rn_B ps, rn_A fr, rn_A sp, rn_A go, rn_A nz, rn_B pg, rn_B cf, rn_B ct, rn_A tk, rn_A en, rn_B ch, rn_A nw, rn_A tl) v') (nI kn, nI tn, th, rn_T ln, rn_A op, rn_A fm, rn_A tt, rn_A le, rn_A ln, rn_A li, rn_A rk, rn_A we, rn_A ca, rn_A mk, rn_A fa, rn_A tp, rn_A ac, rn_A sz, rn_A dw, rn_A st, rn_A ty, rn_A ed, rn_A la, rn_A fr, rn_A sp, rn_A go, rn_A nz, rn_A tk, rn_C ch, rn_A en, rn_A nw, rn_A gr, rn_A cr, rn_A ne, rn_A nl, rn_A oe, rn_A ol, rn_A fl, rn_A pc, rn_A ph, rn_A pa, rn_A se, rn_A ls, rn_A mo, rn_A tl, gp, fs) (nI e) (nI g) v3 := by
      intro r r1 r0
      unfold wpY_way
      refine ry_ie _ _ (rb_b (fun w => absurd t1 w) (fun _ => ry_ie _ _ (rb_b (fun w => absurd t2 w) (fun _ => ry_in _ _ _ _ (rb_b (fun w => absurd ?_ w) (fun _ => ry_next _ rfl rfl I.1.1 I.1.2.2.2.2.1 hW he hg (fun fa hF => ?_)))))))
      · rcases h3 with z | z
        · subst z; exact ⟨by decide, by decide⟩
        · subst z; exact ⟨by decide, by decide⟩
      · have R1 : i_Rel (k + 5) (nI tn, rn_A ln, rn_A fm, rn_A tt, rn_A le, rn_A li, rn_A rk, rn_A we, rn_A op, rn_A ca, rn_A mk, rn_B wd, rn_B wn, rn_A pc, rn_A ph, rn_A pa, rn_A pe, rn_A pt, rn_A tp, rn_A ac, rn_A sz, rn_A dw, rn_A st, rn_A ty, rn_A ed, rn_B ps, rn_A fr, rn_A sp, rn_A go, rn_A nz, rn_B pg, rn_B cf, rn_B ct, rn_A tk, rn_A en, rn_B ch, rn_A nw, rn_A tl) (nI 1, nI tn, th, rn_T ln, rn_A op, rn_A fm, rn_A tt, rn_A le, rn_A ln, rn_A li, rn_A rk, rn_A we, rn_A ca, rn_A mk, rn_A fa, rn_A tp, rn_A ac, rn_A sz, rn_A dw, rn_A st, rn_A ty, rn_A ed, rn_A la, rn_A fr, rn_A sp, rn_A go, rn_A nz, rn_A tk, rn_C ch, rn_A en, rn_A nw, rn_A gr, rn_A cr, rn_A ne, rn_A nl, rn_A oe, rn_A ol, rn_A fl, rn_A pc, rn_A ph, rn_A pa, rn_A se, rn_A ls, rn_A mo, rn_A tl, gp, fs) := rl_rel (kn := 1) I (Or.inr ⟨rfl, hF⟩) (by omega) (by omega)
        have D := rq_distY I.1.1 I.1.2.2.2.2.1 hg (hF g hg) he
        have F1 : fa (16 * g + e) ≤ 1000000 := (hF g hg).1.1 e he
        refine br_c (fun z => ⟨(r1 z).symm, R1⟩) (fun z => ?_)
        have z0 : v3 = 0 := h3.elim id (fun w => absurd w z)
        rw [iy, rn_rA (by omega)]
        refine ⟨it, pk_lt (fa (16 * g + e)) 1000000 (fun w => ⟨it, ?_⟩) (fun w => ?_)⟩
        · rw [if_pos w] at D
          rw [r0 z0, D]
          exact ⟨rfl, R1⟩
        · rw [if_neg (by omega)] at D
          rw [r0 z0, D]
          exact ⟨rfl, R1⟩
    unfold wpX_way
    refine rx_ie _ _ hl (rb_b (fun w => absurd t1 w) (fun _ => rx_ie _ _ hl (rb_b (fun w => absurd t2 w) (fun _ => ?_))))
    rw [ix, rn_rB (by omega), rn_rB (by omega)]
    rcases h3 with z | z
    · subst z
      exact br_f (by decide) (br_t (by decide) (br_t rfl ⟨is, ya _ (fun w => absurd w (by decide)) (fun _ => rfl)⟩))
    · subst z
      exact br_f (by decide) (br_t (by decide) (br_f (by decide) ⟨is, ya _ (fun _ => rfl) (fun w => absurd w (by decide))⟩))
  · have in01 : ∀ x : Int32, ¬ x < 0 → ¬ 1 < x → x = 0 ∨ x = 1 := by
      intro x h1 h2
      obtain ⟨w, q, _, hw⟩ := rn_rg (a := 0) (b := 1) (by omega) (by omega) h1 h2
      subst q
      rcases Nat.eq_zero_or_pos w with z | z
      · subst z; exact Or.inl rfl
      · have : w = 1 := by omega
        subst this; exact Or.inr rfl
    have yr : wpY_way (fun r' v' => r' = -1 ∧ i_Rel (k + 5) (nI tn, rn_A ln, rn_A fm, rn_A tt, rn_A le, rn_A li, rn_A rk, rn_A we, rn_A op, rn_A ca, rn_A mk, rn_B wd, rn_B wn, rn_A pc, rn_A ph, rn_A pa, rn_A pe, rn_A pt, rn_A tp, rn_A ac, rn_A sz, rn_A dw, rn_A st, rn_A ty, rn_A ed, rn_B ps, rn_A fr, rn_A sp, rn_A go, rn_A nz, rn_B pg, rn_B cf, rn_B ct, rn_A tk, rn_A en, rn_B ch, rn_A nw, rn_A tl) v') (nI kn, nI tn, th, rn_T ln, rn_A op, rn_A fm, rn_A tt, rn_A le, rn_A ln, rn_A li, rn_A rk, rn_A we, rn_A ca, rn_A mk, rn_A fa, rn_A tp, rn_A ac, rn_A sz, rn_A dw, rn_A st, rn_A ty, rn_A ed, rn_A la, rn_A fr, rn_A sp, rn_A go, rn_A nz, rn_A tk, rn_C ch, rn_A en, rn_A nw, rn_A gr, rn_A cr, rn_A ne, rn_A nl, rn_A oe, rn_A ol, rn_A fl, rn_A pc, rn_A ph, rn_A pa, rn_A se, rn_A ls, rn_A mo, rn_A tl, gp, fs) v1 v2 v3 := by
      unfold wpY_way
      exact ry_ie _ _ (rb_b (fun _ => ⟨rfl, R0⟩) (fun t1 => ry_ie _ _ (rb_b (fun _ => ⟨rfl, R0⟩) (fun t2 => ry_in _ _ _ _ (rb_b (fun _ => ⟨rfl, R0⟩) (fun w => absurd ⟨t1, t2, in01 _ w.1 w.2⟩ hn))))))
    unfold wpX_way
    exact rx_ie _ _ hl (rb_b (fun _ => yr) (fun t1 => rx_ie _ _ hl (rb_b (fun _ => yr) (fun t2 => br_c (fun _ => yr) (fun k0 => br_c (fun k1 => absurd ⟨t1, t2, in01 _ k0 (Int32.not_lt.mpr k1)⟩ hn) (fun _ => yr))))))
/-! road -/
def rd_cc (st ed : Nat → Nat) (s e : Nat) : Nat → Nat
  | 0 => 0
  | i + 1 => rd_cc st ed s e i + (if st i = s ∧ ed i = e then 1 else 0)
section
variable {ln fm tt le li rk we op ca mk wd wn fa pc ph pa pe pt se ls mo tp ac sz dw st ty ed fr sp go nz tk en ch nw ps pg cf ct la gr cr ne nl oe ol fl tl : Nat → Nat} {tn kn N : Nat} {th : Int32} {gp fs : Nat → Int32}
theorem rd_ccP {s e i : Nat} (h : st i = s ∧ ed i = e) : rd_cc st ed s e (i + 1) = rd_cc st ed s e i + 1 := by simp only [rd_cc]; rw [if_pos h]
theorem rd_ccQ {s e i : Nat} (h : ¬ (st i = s ∧ ed i = e)) : rd_cc st ed s e (i + 1) = rd_cc st ed s e i := by simp only [rd_cc]; rw [if_neg h]; rfl
theorem rx_cc (post : Int32 → Prop) {e s : Nat} {x y : Int32} (hx : x = nI e) (hy : y = nI s) (I : (rq_L ln fm tt le li rk we op mk wd wn pc ph pa pe pt se ls mo tp ac sz dw st ty ed fr sp go tk en ch ps pg cf ct la gr cr ne nl oe ol fl tl tn N)) (he : e < 16) (hs : s < 10) (h : post (nI (rd_cc st ed s e 32))) : wpX_countCars post (nI tn, rn_A ln, rn_A fm, rn_A tt, rn_A le, rn_A li, rn_A rk, rn_A we, rn_A op, rn_A ca, rn_A mk, rn_B wd, rn_B wn, rn_A pc, rn_A ph, rn_A pa, rn_A pe, rn_A pt, rn_A tp, rn_A ac, rn_A sz, rn_A dw, rn_A st, rn_A ty, rn_A ed, rn_B ps, rn_A fr, rn_A sp, rn_A go, rn_A nz, rn_B pg, rn_B cf, rn_B ct, rn_A tk, rn_A en, rn_B ch, rn_A nw, rn_A tl) x y := by
  subst hx hy
  refine loop_0 (fun n i (b : Nat) => wX_countCars_5 post (nI e) (nI s) (nI tn) (rn_A ln) (rn_A fm) (rn_A tt) (rn_A le) (rn_A li) (rn_A rk) (rn_A we) (rn_A op) (rn_A ca) (rn_A mk) (rn_B wd) (rn_B wn) (rn_A pc) (rn_A ph) (rn_A pa) (rn_A pe) (rn_A pt) (rn_A tp) (rn_A ac) (rn_A sz) (rn_A dw) (rn_A st) (rn_A ty) (rn_A ed) (rn_B ps) (rn_A fr) (rn_A sp) (rn_A go) (rn_A nz) (rn_B pg) (rn_B cf) (rn_B ct) (rn_A tk) (rn_A en) (rn_B ch) (rn_A nw) (rn_A tl) n (nI b) (nI i)) (fun i b => b = rd_cc st ed s e i) 32 0 rfl ?_ ?_
  · intro n b e; subst e
    exact br_t (by decide) h
  · intro n i b hi e0 ih; subst e0
    have A := rI_c I i
    refine pk_le 32 i (fun z => by omega) (fun _ => ⟨pk_in i 32 hi, ?_⟩)
    refine ek_f (rn_e (rn_rA (by omega)) (b := s) rfl (by omega) (by omega)) (fun e1 => ⟨pk_in i 32 hi, ?_⟩) (fun e1 => nm_r (nI_1 i) (ih _ (rd_ccQ (fun w => e1 w.1)).symm))
    exact ek_f (rn_e (rn_rA (by omega)) (b := e) rfl (by omega) (by omega)) (fun e2 => nm_r (nI_1 _) (nm_r (nI_1 i) (ih _ (rd_ccP ⟨e1, e2⟩).symm))) (fun e2 => nm_r (nI_1 i) (ih _ (rd_ccQ (fun w => e2 w.2)).symm))
/-- what road answers -/
noncomputable def rq_rd (le li we op ca tt pc ph pe st ed : Nat → Nat) (e : Nat) : Nat → Int32
  | 0 => nI (rd_cc st ed 2 e 32)
  | 1 => nI (rd_cc st ed 1 e 32)
  | 2 => nI (rq_co le li we e)
  | 3 => rb_ (rq_gn tt pc ph pe e)
  | 4 => nI (ca e)
  | _ => rb_ (op e ≠ 0)
theorem rb_2 (post : Int32 → Prop) {P : Prop} (h : post (rb_ P)) : (rb_ P = 0 → post 0) ∧ (¬ rb_ P = 0 → post 1) := rb_b (fun w => rb_p0 h w) (fun w => rb_p1 h w)
theorem ry_rd (post : Int32 → Prop) {e : Nat} {x : Int32} (I : (rq_L ln fm tt le li rk we op mk wd wn pc ph pa pe pt se ls mo tp ac sz dw st ty ed fr sp go tk en ch ps pg cf ct la gr cr ne nl oe ol fl tl tn N)) (he : e < 16) (hle : 0 < ln e) (hb : x < 0 ∨ 5 < x → post (-1)) (hg : ∀ w, w ≤ 5 → x = nI w → post (rq_rd le li we op ca tt pc ph pe st ed e w)) : wpY_road post (nI kn, nI tn, th, rn_T ln, rn_A op, rn_A fm, rn_A tt, rn_A le, rn_A ln, rn_A li, rn_A rk, rn_A we, rn_A ca, rn_A mk, rn_A fa, rn_A tp, rn_A ac, rn_A sz, rn_A dw, rn_A st, rn_A ty, rn_A ed, rn_A la, rn_A fr, rn_A sp, rn_A go, rn_A nz, rn_A tk, rn_C ch, rn_A en, rn_A nw, rn_A gr, rn_A cr, rn_A ne, rn_A nl, rn_A oe, rn_A ol, rn_A fl, rn_A pc, rn_A ph, rn_A pa, rn_A se, rn_A ls, rn_A mo, rn_A tl, gp, fs) (nI e) x := by
  unfold wpY_road
  refine ry_ie _ _ (rb_b (fun w => absurd ⟨e, he, rfl, hle⟩ w) (fun _ => ?_))
  have B := rI_e I e
  refine loop_0 (fun n i (s : Nat × Nat) => wY_road_18 post (nI e) x (nI kn) (nI tn) th (rn_T ln) (rn_A op) (rn_A fm) (rn_A tt) (rn_A le) (rn_A ln) (rn_A li) (rn_A rk) (rn_A we) (rn_A ca) (rn_A mk) (rn_A fa) (rn_A tp) (rn_A ac) (rn_A sz) (rn_A dw) (rn_A st) (rn_A ty) (rn_A ed) (rn_A la) (rn_A fr) (rn_A sp) (rn_A go) (rn_A nz) (rn_A tk) (rn_C ch) (rn_A en) (rn_A nw) (rn_A gr) (rn_A cr) (rn_A ne) (rn_A nl) (rn_A oe) (rn_A ol) (rn_A fl) (rn_A pc) (rn_A ph) (rn_A pa) (rn_A se) (rn_A ls) (rn_A mo) (rn_A tl) gp fs n (nI s.1) (nI s.2) (nI i)) (fun i s => s = (rd_cc st ed 2 e i, rd_cc st ed 1 e i)) 32 (0, 0) rfl ?_ ?_
  · intro n s e0; subst e0
    refine br_t (by decide) (br_c (fun w => hb (Or.inl w)) (fun k0 => br_c (fun w => hb (Or.inr w)) (fun k1 => ?_)))
    obtain ⟨w, rfl, _, hw⟩ := rn_rg (a := 0) (b := 5) (by omega) (by omega) k0 k1
    have h := hg w hw rfl
    have ie : vp_in (nI e) 16 := pk_in e 16 he
    rcases (by omega : w = 0 ∨ w = 1 ∨ w = 2 ∨ w = 3 ∨ w = 4 ∨ w = 5) with z | z | z | z | z | z <;> subst z
    · exact br_t rfl h
    · exact br_f (by decide) (br_t rfl h)
    · exact br_f (by decide) (br_f (by decide) (br_t rfl (ry_co _ rfl I.1 he hle h)))
    · exact br_f (by decide) (br_f (by decide) (br_f (by decide) (br_t rfl (ry_gn _ rfl I.1 I.2.2.1 he (rb_2 post h)))))
    · refine br_f (by decide) (br_f (by decide) (br_f (by decide) (br_f (by decide) (br_t rfl ⟨ie, ?_⟩))))
      rw [rn_rA (by omega)]; exact h
    · refine br_f (by decide) (br_f (by decide) (br_f (by decide) (br_f (by decide) (br_f (by decide) (br_t rfl ⟨ie, ?_⟩)))))
      exact ek_f (rn_e (rn_rA (by omega)) (b := 0) rfl (by omega) (by omega)) (fun k => rb_p0 h (fun w => w k)) (fun k => rb_p1 h k)
  · intro n i s hi e0 ih; subst e0
    have A := rI_c I i
    have s50 : ∀ a, a = rd_cc st ed 2 e (i + 1) → wY_road_50 post (wY_road_18 post (nI e) x (nI kn) (nI tn) th (rn_T ln) (rn_A op) (rn_A fm) (rn_A tt) (rn_A le) (rn_A ln) (rn_A li) (rn_A rk) (rn_A we) (rn_A ca) (rn_A mk) (rn_A fa) (rn_A tp) (rn_A ac) (rn_A sz) (rn_A dw) (rn_A st) (rn_A ty) (rn_A ed) (rn_A la) (rn_A fr) (rn_A sp) (rn_A go) (rn_A nz) (rn_A tk) (rn_C ch) (rn_A en) (rn_A nw) (rn_A gr) (rn_A cr) (rn_A ne) (rn_A nl) (rn_A oe) (rn_A ol) (rn_A fl) (rn_A pc) (rn_A ph) (rn_A pa) (rn_A se) (rn_A ls) (rn_A mo) (rn_A tl) gp fs n) (nI e) x (nI a) (nI (rd_cc st ed 1 e i)) (nI i) (nI kn) (nI tn) th (rn_T ln) (rn_A op) (rn_A fm) (rn_A tt) (rn_A le) (rn_A ln) (rn_A li) (rn_A rk) (rn_A we) (rn_A ca) (rn_A mk) (rn_A fa) (rn_A tp) (rn_A ac) (rn_A sz) (rn_A dw) (rn_A st) (rn_A ty) (rn_A ed) (rn_A la) (rn_A fr) (rn_A sp) (rn_A go) (rn_A nz) (rn_A tk) (rn_C ch) (rn_A en) (rn_A nw) (rn_A gr) (rn_A cr) (rn_A ne) (rn_A nl) (rn_A oe) (rn_A ol) (rn_A fl) (rn_A pc) (rn_A ph) (rn_A pa) (rn_A se) (rn_A ls) (rn_A mo) (rn_A tl) gp fs := by
      intro a ha
      subst ha
      refine ⟨pk_in i 32 hi, ek_f (rn_e (rn_rA (by omega)) (b := 1) rfl (by omega) (by omega)) (fun e1 => ⟨pk_in i 32 hi, ek_f (rn_e (rn_rA (by omega)) (b := e) rfl (by omega) (by omega)) (fun e2 => nm_r (nI_1 _) (nm_r (nI_1 i) (ih (_, _) ?_))) (fun e2 => nm_r (nI_1 i) (ih (_, _) ?_))⟩) (fun e1 => nm_r (nI_1 i) (ih (_, _) ?_))⟩
      · rw [rd_ccP (s := 1) ⟨e1, e2⟩]; rfl
      · rw [rd_ccQ (s := 1) (fun w => e2 w.2)]; rfl
      · rw [rd_ccQ (s := 1) (fun w => e1 w.1)]; rfl
    refine pk_le 32 i (fun z => by omega) (fun _ => ⟨pk_in i 32 hi, ?_⟩)
    refine ek_f (rn_e (rn_rA (by omega)) (b := 2) rfl (by omega) (by omega)) (fun e1 => ⟨pk_in i 32 hi, ?_⟩) (fun e1 => s50 _ (rd_ccQ (fun w => e1 w.1)).symm)
    exact ek_f (rn_e (rn_rA (by omega)) (b := e) rfl (by omega) (by omega)) (fun e2 => nm_r (nI_1 _) (s50 _ (rd_ccP ⟨e1, e2⟩).symm)) (fun e2 => s50 _ (rd_ccQ (fun w => e2 w.2)).symm)
theorem rx_rd (post : Int32 → Prop) {e : Nat} {x : Int32} (I : (rq_L ln fm tt le li rk we op mk wd wn pc ph pa pe pt se ls mo tp ac sz dw st ty ed fr sp go tk en ch ps pg cf ct la gr cr ne nl oe ol fl tl tn N)) (he : e < 16) (hle : 0 < ln e) (hb : x < 0 ∨ 5 < x → post (-1)) (hg : ∀ w, w ≤ 5 → x = nI w → post (rq_rd le li we op ca tt pc ph pe st ed e w)) : wpX_road post (nI tn, rn_A ln, rn_A fm, rn_A tt, rn_A le, rn_A li, rn_A rk, rn_A we, rn_A op, rn_A ca, rn_A mk, rn_B wd, rn_B wn, rn_A pc, rn_A ph, rn_A pa, rn_A pe, rn_A pt, rn_A tp, rn_A ac, rn_A sz, rn_A dw, rn_A st, rn_A ty, rn_A ed, rn_B ps, rn_A fr, rn_A sp, rn_A go, rn_A nz, rn_B pg, rn_B cf, rn_B ct, rn_A tk, rn_A en, rn_B ch, rn_A nw, rn_A tl) (nI e) x := by
  unfold wpX_road
  have B := rI_e I e
  refine rx_ie _ _ (fun e => (rI_e I e).1) (rb_b (fun w => absurd ⟨e, he, rfl, hle⟩ w) (fun _ => br_c (fun w => hb (Or.inl w)) (fun k0 => br_c (fun w => hb (Or.inr w)) (fun k1 => ?_))))
  obtain ⟨w, rfl, _, hw⟩ := rn_rg (a := 0) (b := 5) (by omega) (by omega) k0 k1
  have h := hg w hw rfl
  have ie : vp_in (nI e) 16 := pk_in e 16 he
  rcases (by omega : w = 0 ∨ w = 1 ∨ w = 2 ∨ w = 3 ∨ w = 4 ∨ w = 5) with z | z | z | z | z | z <;> subst z
  · exact br_t rfl (rx_cc _ rfl (s := 2) rfl I he (by omega) h)
  · exact br_f (by decide) (br_t rfl (rx_cc _ rfl (s := 1) rfl I he (by omega) h))
  · exact br_f (by decide) (br_f (by decide) (br_t rfl (rx_co _ rfl I.1 he hle h)))
  · exact br_f (by decide) (br_f (by decide) (br_f (by decide) (br_t rfl (rx_gn _ rfl I.1 I.2.2.1 he (rb_2 post h)))))
  · refine br_f (by decide) (br_f (by decide) (br_f (by decide) (br_f (by decide) (br_t rfl ⟨ie, ?_⟩))))
    rw [rn_rA (by omega)]; exact h
  · refine br_f (by decide) (br_f (by decide) (br_f (by decide) (br_f (by decide) (br_f (by decide) (br_t rfl ⟨ie, ?_⟩)))))
    exact ek_f (rn_e (rn_rA (by omega)) (b := 0) rfl (by omega) (by omega)) (fun k => rb_p0 h (fun w => w k)) (fun k => rb_p1 h k)
end
theorem i_vc_road {k : Nat} {u : SX} {v : SY} (I : i_Rel k u v) (hk : k + 5 ≤ 2560) (v1 : Int32) (v2 : Int32) : wpX_road (fun r => wpY_road (fun r' => r' = r ∧ i_Rel (k + 5) u v) v v1 v2) u v1 v2 := by
  obtain ⟨ln, fm, tt, le, li, rk, we, op, ca, mk, wd, wn, fa, pc, ph, pa, pe, pt, se, ls, mo, tp, ac, sz, dw, st, ty, ed, fr, sp, go, nz, tk, en, ch, nw, ps, pg, cf, ct, la, gr, cr, ne, nl, oe, ol, fl, tl, tn, kn, N, th, gp, fs, rfl, rfl, I, hW, hN, hT⟩ := I
  have R0 : i_Rel (k + 5) (nI tn, rn_A ln, rn_A fm, rn_A tt, rn_A le, rn_A li, rn_A rk, rn_A we, rn_A op, rn_A ca, rn_A mk, rn_B wd, rn_B wn, rn_A pc, rn_A ph, rn_A pa, rn_A pe, rn_A pt, rn_A tp, rn_A ac, rn_A sz, rn_A dw, rn_A st, rn_A ty, rn_A ed, rn_B ps, rn_A fr, rn_A sp, rn_A go, rn_A nz, rn_B pg, rn_B cf, rn_B ct, rn_A tk, rn_A en, rn_B ch, rn_A nw, rn_A tl) (nI kn, nI tn, th, rn_T ln, rn_A op, rn_A fm, rn_A tt, rn_A le, rn_A ln, rn_A li, rn_A rk, rn_A we, rn_A ca, rn_A mk, rn_A fa, rn_A tp, rn_A ac, rn_A sz, rn_A dw, rn_A st, rn_A ty, rn_A ed, rn_A la, rn_A fr, rn_A sp, rn_A go, rn_A nz, rn_A tk, rn_C ch, rn_A en, rn_A nw, rn_A gr, rn_A cr, rn_A ne, rn_A nl, rn_A oe, rn_A ol, rn_A fl, rn_A pc, rn_A ph, rn_A pa, rn_A se, rn_A ls, rn_A mo, rn_A tl, gp, fs) := rl_rel I hW (by omega) (by omega)
  rcases Classical.em (rq_th ln v1) with ⟨e, he, rfl, hle⟩ | hn
  · refine rx_rd _ I.1 he hle (fun w => ry_rd _ I.1 he hle (fun _ => ⟨rfl, R0⟩) (fun x hx q => ?_)) (fun x hx q => ry_rd _ I.1 he hle (fun w => ?_) (fun x' hx' q' => ?_))
    · subst q
      rcases w with w | w
      · exact absurd w (nI_pos (by omega))
      · exact absurd w (nI_nlt (a := 5) hx (by decide))
    · subst q
      rcases w with w | w
      · exact absurd w (nI_pos (by omega))
      · exact absurd w (nI_nlt (a := 5) hx (by decide))
    · have := (nI_eq (by omega) (by omega)).mp (q.symm.trans q')
      subst this
      exact ⟨rfl, R0⟩
  · unfold wpX_road
    refine rx_ie _ _ (fun e => (rI_e I.1 e).1) (rb_b (fun _ => ?_) (fun w => absurd w hn))
    unfold wpY_road
    exact ry_ie _ _ (rb_b (fun _ => ⟨rfl, R0⟩) (fun w => absurd w hn))
