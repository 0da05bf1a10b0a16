/-! CROSSINGS: Y's readers -/
section
variable {ln fm tt le li rk we op ca mk wd wn fa pc ph pa pe pt se ls mo tp ac sz dw st ty ed fr sp go nz tk en ch nw ps pg cf ct la gr cr ne nl oe ol fl tl : Nat → Nat} {tn kn N : Nat} {th : Int32} {gp fs : Nat → Int32}
theorem ry_as (post : Int32 → SY → Prop) {c j : Nat} {x y : Int32} (hx : x = nI c) (hy : y = nI j) (I : (rq_L ln fm tt le li rk we op mk wd wn pc ph pa pe pt se ls mo tp ac sz dw st ty ed fr sp go tk en ch ps pg cf ct la gr cr ne nl oe ol fl tl tn N)) (hW : (rq_WY ln fm tt le li we op mk fa kn)) (hc : c < 32) (hj : j < 8) (H : ∀ kn fa, (rq_WY ln fm tt le li we op mk fa kn) → post (rb_ ((rq_ask ln fm tt le mk wn pc ph pe st ed fr go ps pg) j c)) (nI kn, nI tn, th, rn_T ln, rn_A op, rn_A fm, rn_A tt, rn_A le, rn_A ln, rn_A li, rn_A rk, rn_A we, rn_A ca, rn_A mk, rn_A fa, rn_A tp, rn_A ac, rn_A sz, rn_A dw, rn_A st, rn_A ty, rn_A ed, rn_A la, rn_A fr, rn_A sp, rn_A go, rn_A nz, rn_A tk, rn_C ch, rn_A en, rn_A nw, rn_A gr, rn_A cr, rn_A ne, rn_A nl, rn_A oe, rn_A ol, rn_A fl, rn_A pc, rn_A ph, rn_A pa, rn_A se, rn_A ls, rn_A mo, rn_A tl, gp, fs)) : wpY_asks post (nI kn, nI tn, th, rn_T ln, rn_A op, rn_A fm, rn_A tt, rn_A le, rn_A ln, rn_A li, rn_A rk, rn_A we, rn_A ca, rn_A mk, rn_A fa, rn_A tp, rn_A ac, rn_A sz, rn_A dw, rn_A st, rn_A ty, rn_A ed, rn_A la, rn_A fr, rn_A sp, rn_A go, rn_A nz, rn_A tk, rn_C ch, rn_A en, rn_A nw, rn_A gr, rn_A cr, rn_A ne, rn_A nl, rn_A oe, rn_A ol, rn_A fl, rn_A pc, rn_A ph, rn_A pa, rn_A se, rn_A ls, rn_A mo, rn_A tl, gp, fs) x y := by
  subst hx hy
  have A := rI_c I c
  have B := rI_e I (ed c)
  have P := rI_p I hc
  have G := rI_gd I c hc
  obtain ⟨x1, x2⟩ := rI_nx I c
  have no := fun n => rb_q0 (H kn fa hW) n
  refine ⟨pk_in c 32 hc, ek_f (rn_e (rn_rA (by omega)) (b := 2) rfl (by omega) (by omega)) (fun h2 => ⟨pk_in c 32 hc, ?_⟩) (fun h2 => no (fun w => h2 w.1))⟩
  obtain ⟨q1, q2, q3, q4, q5, q6⟩ := rq_psE I.2.1 hc h2
  obtain ⟨p1, p2⟩ := P.2.2.2.1 h2
  obtain ⟨s1, s2, s3⟩ := rI_as I hc h2
  refine ek_f (rn_e (rn_rA (by omega)) (b := 0) rfl (by omega) (by omega)) (fun k1 => ⟨pk_in c 32 hc, nm_r (rn_rA (by omega)) ⟨vp_in_nI (by omega) (by omega), ?_⟩⟩) (fun k1 => no (fun w => by have := w.2.2.1; omega))
  have g0 : pg c = 0 := by omega
  refine ek_f (rn_e (rn_rA (by omega)) (b := j) rfl (by omega) (by omega)) (fun k2 => ⟨pk_in c 32 hc, ?_⟩) (fun k2 => no (fun w => k2 w.2.1))
  refine ek_f (rn_e (rn_rA (by omega)) (b := ed c) rfl (by omega) (by omega)) (fun k3 => no (fun w => w.2.2.2.1 k3)) (fun k3 => ⟨vp_in_nI (by omega) (by omega), pk_in c 32 hc, ?_⟩)
  refine ek_f (ri_l (a := (le (ed c) : Int) - fr c) (by rw [rn_rA (by omega), rn_rA (by omega), ri_n, ri_n, ri_sub]) (ri_n 40) (by omega) (by omega)) (fun k4 => ?_) (fun k4 => no (fun w => by have := w.2.2.2.2.1; omega))
  refine ry_gn _ rfl I.1 I.2.2.1 A.2.2.1 (ry_nxo _ rfl I hW hc (fun kn fa hW' => ?_))
  have no := fun n => rb_q0 (H kn fa hW') n
  have yes := fun n => rb_q1 (H kn fa hW') n
  refine rb_b (fun k5 => no (fun w => k5 w.2.2.2.2.2.1)) (fun k5 => ?_)
  refine ek_f (rn_cn (by omega)) (fun k6 => no (fun w => by have := w.2.2.2.2.2.2.1; omega)) (fun k6 => ⟨pk_in c 32 hc, ?_⟩)
  have n0 : 0 < (rq_nx wn ed go) c := by omega
  obtain ⟨t1, t2, t3, t4, t5, t6⟩ := s2 n0
  have C := rI_e I ((rq_nx wn ed go) c - 1)
  refine ry_ld _ rfl (rn_rA (by omega)) (rn_cs n0) I.1 A.2.2.1 q6 (by omega) ?_
  have e1 : 2 * ed c + la c = ps c - 1 := by omega
  rw [e1]
  refine rb_b (fun k7 => no (fun w => k7 w.2.2.2.2.2.2.2.1)) (fun k7 => ⟨pk_in c 32 hc, pk_in c 32 hc, ?_⟩)
  refine ry_ab _ rfl (rn_rA (by omega)) (rn_rA (by omega)) (by omega) q6 (by omega) (rI_on I) (rI_fr I) ⟨rn_ic n0 x1 (by omega), ?_⟩
  have e2 : 2 * ed c + la c + 1 = ps c := by omega
  rw [e2]
  have L := rd_nrL (ps := ps) (fr := fr) (s := ps c) (p := fr c) 32
  have s150 : ∀ l, l ≤ 1 → (rq_as ln) ((rq_nx wn ed go) c) (ps c) = 2 * ((rq_nx wn ed go) c - 1) + l + 1 → wY_asks_150 post (rn_c ((rq_nx wn ed go) c)) (rn_y ((rd_nr ps fr) (ps c) (fr c) 32)) (nI l) (nI kn) (nI tn) th (rn_T ln) (rn_A op) (rn_A fm) (rn_A tt) (rn_A le) (rn_A ln) (rn_A li) (rn_A rk) (rn_A we) (rn_A ca) (rn_A mk) (rn_A fa) (rn_A tp) (rn_A ac) (rn_A sz) (rn_A dw) (rn_A st) (rn_A ty) (rn_A ed) (rn_A la) (rn_A fr) (rn_A sp) (rn_A go) (rn_A nz) (rn_A tk) (rn_C ch) (rn_A en) (rn_A nw) (rn_A gr) (rn_A cr) (rn_A ne) (rn_A nl) (rn_A oe) (rn_A ol) (rn_A fl) (rn_A pc) (rn_A ph) (rn_A pa) (rn_A se) (rn_A ls) (rn_A mo) (rn_A tl) gp fs := by
    intro l hl hl2
    refine ek_f (rn_yn (by omega)) (fun m1 => yes ⟨h2, k2, g0, k3, by omega, k5, n0, k7, Or.inl m1⟩) (fun m1 => ⟨rn_iy (by omega) L (by omega), ?_⟩)
    have G' := rI_gd I ((rd_nr ps fr) (ps c) (fr c) 32 - 1) (by omega)
    refine ek_f (rn_e (rn_Ay (by omega) (by omega)) (b := 0) rfl (by omega) (by omega)) (fun m2 => no (fun w => by have := w.2.2.2.2.2.2.2.2; omega)) (fun m2 => ⟨rn_iy (by omega) L (by omega), ?_⟩)
    refine ek_f (rn_e (rn_Ay (by omega) (by omega)) (rn_cs n0) (by omega) (by omega)) (fun m3 => ⟨rn_iy (by omega) L (by omega), ?_⟩) (fun m3 => no (fun w => by have := w.2.2.2.2.2.2.2.2; omega))
    exact ek_f (rn_e (rn_Ay (by omega) (by omega)) rfl (by omega) (by omega)) (fun m4 => yes ⟨h2, k2, g0, k3, by omega, k5, n0, k7, Or.inr (by omega)⟩) (fun m4 => no (fun w => by have := w.2.2.2.2.2.2.2.2; omega))
  refine ek_f (rn_e (rn_Ac n0 (by omega)) (b := 1) rfl (by omega) (by omega)) (fun k8 => s150 0 (by omega) (by rw [if_pos k8] at t5; exact t5)) (fun k8 => ⟨pk_in c 32 hc, ?_⟩)
  rw [rn_rA (by omega)]
  exact s150 (la c) q6 (by rw [if_neg k8] at t5; exact t5)
theorem ry_bf (post : Int32 → Prop) {c d : Nat} {x y : Int32} (hx : x = nI c) (hy : y = nI d) (I : (rq_L ln fm tt le li rk we op mk wd wn pc ph pa pe pt se ls mo tp ac sz dw st ty ed fr sp go tk en ch ps pg cf ct la gr cr ne nl oe ol fl tl tn N)) (hc : c < 32) (hd : d < 32) (h2 : st c = 2) (h2' : st d = 2) (h : post (rb_ ((rq_bf rk le ed fr ps) c d))) : wpY_before post (nI kn, nI tn, th, rn_T ln, rn_A op, rn_A fm, rn_A tt, rn_A le, rn_A ln, rn_A li, rn_A rk, rn_A we, rn_A ca, rn_A mk, rn_A fa, rn_A tp, rn_A ac, rn_A sz, rn_A dw, rn_A st, rn_A ty, rn_A ed, rn_A la, rn_A fr, rn_A sp, rn_A go, rn_A nz, rn_A tk, rn_C ch, rn_A en, rn_A nw, rn_A gr, rn_A cr, rn_A ne, rn_A nl, rn_A oe, rn_A ol, rn_A fl, rn_A pc, rn_A ph, rn_A pa, rn_A se, rn_A ls, rn_A mo, rn_A tl, gp, fs) x y := by
  subst hx hy
  have A := rI_c I c
  have A' := rI_c I d
  have B := rI_e I (ed c)
  have B' := rI_e I (ed d)
  have P := ((rI_p I hc).2.2.2.1 h2).1
  have P' := ((rI_p I hd).2.2.2.1 h2').1
  refine ⟨pk_in c 32 hc, nm_r (rn_rA (by omega)) ⟨pk_in d 32 hd, nm_r (rn_rA (by omega)) ⟨vp_in_nI (by omega) (by omega), vp_in_nI (by omega) (by omega), ?_⟩⟩⟩
  refine ek_f (rn_e (rn_rA (by omega)) (rn_rA (by omega)) (by omega) (by omega)) (fun k1 => ⟨vp_in_nI (by omega) (by omega), pk_in c 32 hc, nm_r (e' := ri_z ((le (ed c) : Int) - fr c)) (by rw [rn_rA (by omega), rn_rA (by omega), ri_n, ri_n, ri_sub]) ⟨vp_in_nI (by omega) (by omega), pk_in d 32 hd, nm_r (e' := ri_z ((le (ed d) : Int) - fr d)) (by rw [rn_rA (by omega), rn_rA (by omega), ri_n, ri_n, ri_sub]) ?_⟩⟩) (fun k1 => ⟨vp_in_nI (by omega) (by omega), vp_in_nI (by omega) (by omega), ?_⟩)
  · refine ek_f (ri_e rfl rfl (by omega) (by omega)) (fun k2 => ?_) (fun k2 => ?_)
    · refine ek_f (rn_e rfl rfl (by omega) (by omega)) (fun k3 => ⟨pk_in c 32 hc, pk_in d 32 hd, ?_⟩) (fun k3 => ?_)
      · exact pk_le (la d) (la c) (fun k4 => rb_p0 h (fun w => by unfold rq_bf at w; omega)) (fun k4 => rb_p1 h (Or.inr ⟨k1, Or.inr ⟨by omega, by omega⟩⟩)) (rn_rA (by omega)) (rn_rA (by omega))
      · exact pk_le (ed d) (ed c) (fun k4 => rb_p0 h (fun w => by unfold rq_bf at w; omega)) (fun k4 => rb_p1 h (Or.inr ⟨k1, Or.inr ⟨by omega, by omega⟩⟩))
    · exact ek_f (ri_l rfl rfl (by omega) (by omega)) (fun k3 => rb_p0 h (fun w => by unfold rq_bf at w; omega)) (fun k3 => rb_p1 h (Or.inr ⟨k1, Or.inl (by omega)⟩))
  · exact pk_le (rk (ed c)) (rk (ed d)) (fun k3 => rb_p0 h (fun w => by unfold rq_bf at w; omega)) (fun k3 => rb_p1 h (Or.inl k3)) (rn_rA (by omega)) (rn_rA (by omega))
/-- the lane of a GRANT begins where the own edge ends -/
theorem rI_fm (I : (rq_I ln fm tt le li rk we op mk wd wn pc ph pa pe pt se ls mo tp ac sz dw st ty ed fr sp go tk en ch ps pg cf ct la gr cr ne nl oe ol fl tl tn N)) {c : Nat} (hc : c < 32) (hg : 0 < pg c) : fm (ne c) = tt (ed c) := by
  obtain ⟨g1, g2, g3, g4, g5⟩ := rq_pgS I.1.2.1 hc hg
  have A := rI_e I.1 (ne c)
  have b := ((I.2.2.2.2.2.2 c hc).2 hg).2.1
  rw [(rq_psE I.1.2.1 hc g1).1, g3, rd_qE (by omega)] at b
  exact b
theorem ry_hd (post : Int32 → Prop) {c j : Nat} {x y : Int32} (hx : x = nI c) (hy : y = nI j) (I : (rq_I ln fm tt le li rk we op mk wd wn pc ph pa pe pt se ls mo tp ac sz dw st ty ed fr sp go tk en ch ps pg cf ct la gr cr ne nl oe ol fl tl tn N)) (hc : c < 32) (hj : j < 8) (h1 : (rq_bd tt ed pg) j c → post 1) (h2 : ¬ (rq_bd tt ed pg) j c → (cf c ≠ 0 ∧ fm (ed c) = j ∧ fr c < sz (ty c)) → post 2) (h0 : ¬ (rq_hd fm tt ed fr pg cf (fun x => sz (ty x))) j c → post 0) : wpY_holds post (nI kn, nI tn, th, rn_T ln, rn_A op, rn_A fm, rn_A tt, rn_A le, rn_A ln, rn_A li, rn_A rk, rn_A we, rn_A ca, rn_A mk, rn_A fa, rn_A tp, rn_A ac, rn_A sz, rn_A dw, rn_A st, rn_A ty, rn_A ed, rn_A la, rn_A fr, rn_A sp, rn_A go, rn_A nz, rn_A tk, rn_C ch, rn_A en, rn_A nw, rn_A gr, rn_A cr, rn_A ne, rn_A nl, rn_A oe, rn_A ol, rn_A fl, rn_A pc, rn_A ph, rn_A pa, rn_A se, rn_A ls, rn_A mo, rn_A tl, gp, fs) x y := by
  subst hx hy
  have A := rI_c I.1 c
  have B := rI_e I.1 (ed c)
  have S := rI_y I.1 c
  have P := rI_p I.1 hc
  have G := rI_gd I.1 c hc
  obtain ⟨_, _, b3, b4, b5⟩ := I.1.2.1.2 c hc
  refine ⟨pk_in c 32 hc, ek_f (rn_e (rn_rA (by omega)) (b := 2) rfl (by omega) (by omega)) (fun k1 => ⟨pk_in c 32 hc, ?_⟩) (fun k1 => h0 (fun w => ?_))⟩
  · have C5 := b5 k1
    have h38 : ¬ (rq_bd tt ed pg) j c → wY_holds_38 post (nI c) (nI j) (nI kn) (nI tn) th (rn_T ln) (rn_A op) (rn_A fm) (rn_A tt) (rn_A le) (rn_A ln) (rn_A li) (rn_A rk) (rn_A we) (rn_A ca) (rn_A mk) (rn_A fa) (rn_A tp) (rn_A ac) (rn_A sz) (rn_A dw) (rn_A st) (rn_A ty) (rn_A ed) (rn_A la) (rn_A fr) (rn_A sp) (rn_A go) (rn_A nz) (rn_A tk) (rn_C ch) (rn_A en) (rn_A nw) (rn_A gr) (rn_A cr) (rn_A ne) (rn_A nl) (rn_A oe) (rn_A ol) (rn_A fl) (rn_A pc) (rn_A ph) (rn_A pa) (rn_A se) (rn_A ls) (rn_A mo) (rn_A tl) gp fs := by
      intro nb
      refine ⟨pk_in c 32 hc, ek_f (rn_e (rn_rA (by omega)) (b := 0) rfl (by omega) (by omega)) (fun k2 => h0 (fun w => w.elim (fun v => by have := v.1; omega) nb)) (fun k2 => ⟨pk_in c 32 hc, rn_iA (by omega) A.2.2.1 (by omega), ?_⟩)⟩
      refine ek_f (rn_e (rn_AA (by omega) (by omega)) (b := j) rfl (by omega) (by omega)) (fun k3 => ⟨pk_in c 32 hc, ry_sz _ rfl hc (fun c => (rI_c I.1 c).2.1) ?_⟩) (fun k3 => h0 (fun w => w.elim (fun v => k3 v.2.1) nb))
      exact pk_le (sz (ty c)) (fr c) (fun k4 => h0 (fun w => w.elim (fun v => by have : fr c < sz (ty c) := v.2.2; omega) nb)) (fun k4 => h2 nb ⟨by omega, k3, k4⟩) rfl (rn_rA (by omega))
    refine ek_f (rn_e (rn_rA (by omega)) (b := 0) rfl (by omega) (by omega)) (fun k2 => h38 (fun w => by have := w.1; omega)) (fun k2 => ⟨pk_in c 32 hc, rn_iA (by omega) (by omega) (by omega), ?_⟩)
    have g0 : 0 < pg c := by omega
    have f1 := rI_fm I hc g0
    have D := rI_e I.1 (ne c)
    exact ek_f (rn_e (rn_AA (by omega) (by omega)) (b := j) rfl (by omega) (by omega)) (fun k3 => h1 ⟨by omega, by omega⟩) (fun k3 => h38 (fun w => by have := w.2; omega))
  · have := b3 k1
    rcases w with w | w
    · exact w.1 this.2.2
    · exact w.1 this.2.1
/-! the things that hold a car back -/
/-- what the first t things are, told by what holds of all of them -/
def rq_Th (gp fs : Nat → Int32) (t : Nat) (L : (Int32 → Int32 → Prop) → Prop) : Prop := ∀ Q : Int32 → Int32 → Prop, (∀ k, k < t → Q (gp k) (fs k)) ↔ L Q
theorem rq_Th1 {t : Nat} {L : (Int32 → Int32 → Prop) → Prop} (h : rq_Th gp fs t L) (g w : Int32) : rq_Th (upd gp t g) (upd fs t w) (t + 1) (fun Q => L Q ∧ Q g w) := by
  intro Q
  constructor
  · intro k
    refine ⟨(h Q).mp (fun i hi => ?_), ?_⟩
    · have := k i (by omega)
      rw [pk_un (by omega), pk_un (by omega)] at this
      exact this
    · have := k t (by omega)
      rw [pk_us, pk_us] at this
      exact this
  · rintro ⟨k1, k2⟩ i hi
    rcases Nat.decEq i t with q | q
    · rw [pk_un q, pk_un q]
      exact (h Q).mpr k1 i (by omega)
    · subst q; rw [pk_us, pk_us]; exact k2
theorem rq_ThE {t : Nat} {L M : (Int32 → Int32 → Prop) → Prop} (h : rq_Th gp fs t L) (e : ∀ Q, L Q ↔ M Q) : rq_Th gp fs t M := fun Q => (h Q).trans (e Q)
theorem ry_tg (post : SY → Prop) {t : Nat} {g w : Int32} (ht : t < 2) (h : post (nI kn, nI tn, nI (t + 1), rn_T ln, rn_A op, rn_A fm, rn_A tt, rn_A le, rn_A ln, rn_A li, rn_A rk, rn_A we, rn_A ca, rn_A mk, rn_A fa, rn_A tp, rn_A ac, rn_A sz, rn_A dw, rn_A st, rn_A ty, rn_A ed, rn_A la, rn_A fr, rn_A sp, rn_A go, rn_A nz, rn_A tk, rn_C ch, rn_A en, rn_A nw, rn_A gr, rn_A cr, rn_A ne, rn_A nl, rn_A oe, rn_A ol, rn_A fl, rn_A pc, rn_A ph, rn_A pa, rn_A se, rn_A ls, rn_A mo, rn_A tl, upd gp t g, upd fs t w)) : wpY_thing post (nI kn, nI tn, nI t, rn_T ln, rn_A op, rn_A fm, rn_A tt, rn_A le, rn_A ln, rn_A li, rn_A rk, rn_A we, rn_A ca, rn_A mk, rn_A fa, rn_A tp, rn_A ac, rn_A sz, rn_A dw, rn_A st, rn_A ty, rn_A ed, rn_A la, rn_A fr, rn_A sp, rn_A go, rn_A nz, rn_A tk, rn_C ch, rn_A en, rn_A nw, rn_A gr, rn_A cr, rn_A ne, rn_A nl, rn_A oe, rn_A ol, rn_A fl, rn_A pc, rn_A ph, rn_A pa, rn_A se, rn_A ls, rn_A mo, rn_A tl, gp, fs) g w := by
  refine ⟨pk_in t 2 ht, nm_r (e' := upd gp t g) (by rw [nI_clamp (by omega)]) ⟨pk_in t 2 ht, nm_r (e' := upd fs t w) (by rw [nI_clamp (by omega)]) (nm_r (nI_1 t) h)⟩⟩
/-- the END, as one of the things -/
def rq_En (le ed fr go : Nat → Nat) (f c : Nat) (Q : Int32 → Int32 → Prop) : Prop := (f = 0 → go c ≠ ed c → Q (ri_z ((le (ed c) : Int) - fr c)) 0) ∧ (0 < f → go c ≠ f - 1 → Q (ri_z ((le (ed c) : Int) - fr c + le (f - 1))) 0)
theorem ry_f120 (post : SY → Prop) {c f t : Nat} {L : (Int32 → Int32 → Prop) → Prop} (I : (rq_L ln fm tt le li rk we op mk wd wn pc ph pa pe pt se ls mo tp ac sz dw st ty ed fr sp go tk en ch ps pg cf ct la gr cr ne nl oe ol fl tl tn N)) (hc : c < 32) (hf : f ≤ 16) (ht : t ≤ 1) (hT : rq_Th gp fs t L)
    (H : ∀ gp fs t, t ≤ 2 → rq_Th gp fs t (fun Q => L Q ∧ rq_En le ed fr go f c Q) → post (nI kn, nI tn, nI t, rn_T ln, rn_A op, rn_A fm, rn_A tt, rn_A le, rn_A ln, rn_A li, rn_A rk, rn_A we, rn_A ca, rn_A mk, rn_A fa, rn_A tp, rn_A ac, rn_A sz, rn_A dw, rn_A st, rn_A ty, rn_A ed, rn_A la, rn_A fr, rn_A sp, rn_A go, rn_A nz, rn_A tk, rn_C ch, rn_A en, rn_A nw, rn_A gr, rn_A cr, rn_A ne, rn_A nl, rn_A oe, rn_A ol, rn_A fl, rn_A pc, rn_A ph, rn_A pa, rn_A se, rn_A ls, rn_A mo, rn_A tl, gp, fs)) : wY_find_120 post (nI c) (rn_y f) (nI (ed c)) (nI kn) (nI tn) (nI t) (rn_T ln) (rn_A op) (rn_A fm) (rn_A tt) (rn_A le) (rn_A ln) (rn_A li) (rn_A rk) (rn_A we) (rn_A ca) (rn_A mk) (rn_A fa) (rn_A tp) (rn_A ac) (rn_A sz) (rn_A dw) (rn_A st) (rn_A ty) (rn_A ed) (rn_A la) (rn_A fr) (rn_A sp) (rn_A go) (rn_A nz) (rn_A tk) (rn_C ch) (rn_A en) (rn_A nw) (rn_A gr) (rn_A cr) (rn_A ne) (rn_A nl) (rn_A oe) (rn_A ol) (rn_A fl) (rn_A pc) (rn_A ph) (rn_A pa) (rn_A se) (rn_A ls) (rn_A mo) (rn_A tl) gp fs := by
  have A := rI_c I c
  have B := rI_e I (ed c)
  refine ⟨vp_in_nI (by omega) (by omega), pk_in c 32 hc, nm_r (e' := ri_z ((le (ed c) : Int) - fr c)) (by rw [rn_rA (by omega), rn_rA (by omega), ri_n, ri_n, ri_sub]) ?_⟩
  refine ek_f (rn_y0 (by omega)) (fun k1 => ?_) (fun k1 => ⟨pk_in c 32 hc, ?_⟩)
  · have C := rI_e I (f - 1)
    refine ek_f (rn_yn (by omega)) (fun k2 => by omega) (fun k2 => ⟨pk_in c 32 hc, ?_⟩)
    refine ek_f (rn_e (rn_rA (by omega)) (rn_ys k1) (by omega) (by omega)) (fun k3 => H gp fs t (by omega) (rq_ThE hT (fun Q => ⟨fun w => ⟨w, fun z => by omega, fun _ z => absurd k3 z⟩, fun w => w.1⟩))) (fun k3 => ⟨rn_iy k1 hf (by omega), ?_⟩)
    have e1 : ri_z ((le (ed c) : Int) - fr c) + rn_A le (rn_y f).toNatClampNeg = ri_z ((le (ed c) : Int) - fr c + le (f - 1)) := by rw [rn_Ay k1 (by omega), ri_n, ri_add]
    rw [e1]
    exact ry_tg _ (by omega) (H _ _ (t + 1) (by omega) (rq_ThE (rq_Th1 hT _ _) (fun Q => ⟨fun w => ⟨w.1, fun z => by omega, fun _ _ => w.2⟩, fun w => ⟨w.1, w.2.2 k1 k3⟩⟩)))
  · have f0 : f = 0 := by omega
    subst f0
    refine ek_f (rn_e (rn_rA (by omega)) (b := ed c) rfl (by omega) (by omega)) (fun k2 => br_t (by decide) (H gp fs t (by omega) (rq_ThE hT (fun Q => ⟨fun w => ⟨w, fun _ z => absurd k2 z, fun z => by omega⟩, fun w => w.1⟩)))) (fun k2 => ?_)
    exact ry_tg _ (by omega) (br_t (by decide) (H _ _ (t + 1) (by omega) (rq_ThE (rq_Th1 hT _ _) (fun Q => ⟨fun w => ⟨w.1, fun _ _ => w.2, fun z => by omega⟩, fun w => ⟨w.1, w.2.1 rfl k2⟩⟩))))
/-- the one AHEAD, as one of the things -/
def rq_Ld (le ty sz ed fr sp ps : Nat → Nat) (s c : Nat) (Q : Int32 → Int32 → Prop) : Prop := ∀ a, rq_le fr ps s c = a + 1 → (ed a = ed c → Q (ri_z ((fr a : Int) - sz (ty a) - 1 - fr c)) (nI (sp a))) ∧ (ed a ≠ ed c → Q (ri_z ((fr a : Int) - sz (ty a) - 1 - fr c + le (ed c))) (nI (sp a)))
theorem ry_fd (post : SY → Prop) {c f l : Nat} {x y w : Int32} (hx : x = nI c) (hy : y = rn_y f) (hw : w = nI l) (I : (rq_L ln fm tt le li rk we op mk wd wn pc ph pa pe pt se ls mo tp ac sz dw st ty ed fr sp go tk en ch ps pg cf ct la gr cr ne nl oe ol fl tl tn N)) (hc : c < 32) (h2 : st c = 2) (hf : f ≤ 16) (hl : 0 < f → l ≤ 1) (hne : 0 < f → f - 1 ≠ ed c)
    (H : ∀ gp fs t, t ≤ 2 → rq_Th gp fs t (fun Q => rq_Ld le ty sz ed fr sp ps (if f = 0 then 0 else 2 * (f - 1) + l + 1) c Q ∧ rq_En le ed fr go f c Q) → post (nI kn, nI tn, nI t, rn_T ln, rn_A op, rn_A fm, rn_A tt, rn_A le, rn_A ln, rn_A li, rn_A rk, rn_A we, rn_A ca, rn_A mk, rn_A fa, rn_A tp, rn_A ac, rn_A sz, rn_A dw, rn_A st, rn_A ty, rn_A ed, rn_A la, rn_A fr, rn_A sp, rn_A go, rn_A nz, rn_A tk, rn_C ch, rn_A en, rn_A nw, rn_A gr, rn_A cr, rn_A ne, rn_A nl, rn_A oe, rn_A ol, rn_A fl, rn_A pc, rn_A ph, rn_A pa, rn_A se, rn_A ls, rn_A mo, rn_A tl, gp, fs)) : wpY_find post (nI kn, nI tn, th, rn_T ln, rn_A op, rn_A fm, rn_A tt, rn_A le, rn_A ln, rn_A li, rn_A rk, rn_A we, rn_A ca, rn_A mk, rn_A fa, rn_A tp, rn_A ac, rn_A sz, rn_A dw, rn_A st, rn_A ty, rn_A ed, rn_A la, rn_A fr, rn_A sp, rn_A go, rn_A nz, rn_A tk, rn_C ch, rn_A en, rn_A nw, rn_A gr, rn_A cr, rn_A ne, rn_A nl, rn_A oe, rn_A ol, rn_A fl, rn_A pc, rn_A ph, rn_A pa, rn_A se, rn_A ls, rn_A mo, rn_A tl, gp, fs) x y w := by
  subst hx hy hw
  have A := rI_c I c
  have B := rI_e I (ed c)
  obtain ⟨q1, q2, q3, q4, q5, q6⟩ := rq_psE I.2.1 hc h2
  have p1 := ((rI_p I hc).2.2.2.1 h2).1
  have hT : ∀ c, ty c < 4 := fun c => (rI_c I c).2.1
  have L := rd_nrL (ps := ps) (fr := fr) (s := ps c) (p := fr c) 32
  generalize hs : (if f = 0 then 0 else 2 * (f - 1) + l + 1) = s at H
  have s32 : s ≤ 32 := by
    rw [← hs]
    split
    · omega
    · have := hl (by omega); omega
  have hq : 0 < s → rd_q s ≠ ed c := by
    intro w
    rw [← hs] at w ⊢
    rcases Nat.eq_zero_or_pos f with z | z
    · rw [if_pos z] at w; omega
    · rw [if_neg (by omega), rd_qE (hl z)]; exact hne z
  have th0 : rq_Th gp fs 0 (fun _ => True) := fun Q => ⟨fun _ => trivial, fun _ k hk => absurd hk (Nat.not_lt_zero k)⟩
  refine ⟨pk_in c 32 hc, nm_r (rn_rA (by omega)) ⟨pk_in c 32 hc, pk_in c 32 hc, ?_⟩⟩
  refine ry_ab _ rfl (rn_rA (by omega)) (rn_rA (by omega)) (by omega) q6 (by omega) (rI_on I) (rI_fr I) ?_
  have e2 : 2 * ed c + la c + 1 = ps c := by omega
  rw [e2]
  refine ek_f (rn_yn (by omega)) (fun k1 => ?_) (fun k1 => ?_)
  · -- none on the own lane
    refine ek_f (rn_yn (by omega)) (fun k2 => ?_) (fun k2 => ?_)
    · have s0 : s = 0 := by rw [← hs, if_pos k2]
      refine ry_f120 post (t := 0) I hc hf (by omega) th0 (fun gp fs t ht hTh => H gp fs t ht (rq_ThE hTh (fun Q => ⟨fun w => ⟨fun a ha => ?_, w.2⟩, fun w => ⟨trivial, w.2⟩⟩)))
      unfold rq_le at ha
      rw [if_pos k1, if_pos s0] at ha
      omega
    · have f0 : 0 < f := by omega
      have hl1 := hl f0
      have s0 : s = 2 * (f - 1) + l + 1 := by rw [← hs, if_neg (by omega)]
      have le1 : rq_le fr ps s c = (rd_nr ps fr) s 0 32 := by unfold rq_le; rw [if_pos k1, if_neg (by omega)]
      refine ry_ab _ (rn_ys f0) rfl (p := 0) rfl (by omega) hl1 (by omega) (rI_on I) (rI_fr I) ?_
      rw [← s0]
      have L2 := rd_nrL (ps := ps) (fr := fr) (s := s) (p := 0) 32
      refine ek_f (rn_y0 (by omega)) (fun k3 => ?_) (fun k3 => ?_)
      · obtain ⟨a, ha⟩ : ∃ a, rq_le fr ps s c = a + 1 := ⟨(rd_nr ps fr) s 0 32 - 1, by omega⟩
        obtain ⟨a1, a2, a3⟩ := rI_leC I hc h2 s32 hq ha
        have D := rI_c I a
        have U := rI_y I a
        have ea : ed a ≠ ed c := by
          rcases a3 with z | z
          · omega
          · exact z.1
        rw [← le1, ha]
        refine ry_gp _ rfl rfl hT hc a1 ⟨vp_in_nI (by omega) (by omega), br_f (nI_pos (by omega)) ⟨pk_in a 32 a1, ?_⟩⟩
        have r1 : rn_A sp (rn_y (a + 1)).toNatClampNeg = nI (sp a) := rn_rA (by omega)
        have r2 : ri_z ((fr a : Int) - sz (ty a) - 1 - fr c) + rn_A le (nI (ed c)).toNatClampNeg = ri_z ((fr a : Int) - sz (ty a) - 1 - fr c + le (ed c)) := by rw [rn_rA (by omega), ri_n, ri_add]
        rw [r1, r2]
        refine ry_tg (t := 0) _ (by omega) (ry_f120 post (t := 1) I hc hf (by omega) (rq_Th1 th0 _ _) (fun gp fs t ht hTh => H gp fs t ht (rq_ThE hTh (fun Q => ⟨fun w => ⟨fun b hb => ?_, w.2⟩, fun w => ⟨⟨trivial, (w.1 a ha).2 ea⟩, w.2⟩⟩))))
        have : b = a := by omega
        subst this
        exact ⟨fun z => absurd z ea, fun _ => w.1.2⟩
      · refine br_t ((rn_yn (by omega)).mpr (by omega)) (ry_f120 post (t := 0) I hc hf (by omega) th0 (fun gp fs t ht hTh => H gp fs t ht (rq_ThE hTh (fun Q => ⟨fun w => ⟨fun a ha => by omega, w.2⟩, fun w => ⟨trivial, w.2⟩⟩))))
  · have le1 : rq_le fr ps s c = (rd_nr ps fr) (ps c) (fr c) 32 := by unfold rq_le; rw [if_neg k1]
    obtain ⟨a, ha⟩ : ∃ a, rq_le fr ps s c = a + 1 := ⟨(rd_nr ps fr) (ps c) (fr c) 32 - 1, by omega⟩
    obtain ⟨a1, a2, a3⟩ := rI_leC I hc h2 s32 hq ha
    have D := rI_c I a
    have U := rI_y I a
    have ea : ed a = ed c := by
      rcases a3 with z | z
      · exact z.1
      · omega
    rw [← le1, ha]
    refine ry_gp _ rfl rfl hT hc a1 ⟨pk_in a 32 a1, ?_⟩
    have r1 : rn_A sp (rn_y (a + 1)).toNatClampNeg = nI (sp a) := rn_rA (by omega)
    rw [r1]
    refine ry_tg (t := 0) _ (by omega) (ry_f120 post (t := 1) I hc hf (by omega) (rq_Th1 th0 _ _) (fun gp fs t ht hTh => H gp fs t ht (rq_ThE hTh (fun Q => ⟨fun w => ⟨fun b hb => ?_, w.2⟩, fun w => ⟨⟨trivial, (w.1 a ha).1 ea⟩, w.2⟩⟩))))
    have : b = a := by omega
    subst this
    exact ⟨fun _ => w.1.2, fun z => absurd ea z⟩
end
