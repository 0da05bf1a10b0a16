/-! LIGHTS -/
section
variable {ln fm tt le li rk we op ca mk wd wn fa pc ph pa pe pt se ls mo tp ac sz dw st ty ed fr sp go nz tk en ch nw ps pg cf ct la gr cr ne nl oe ol fl tl : Nat → Nat} {tn kn N : Nat} {th : Int32} {gp fs : Nat → Int32}
/-- a car that needs the phase at hand -/
def rq_nd (tt le st ed fr pg se : Nat → Nat) (j k c : Nat) : Prop := st c = 2 ∧ tt (ed c) = j ∧ rd_bt (se k) (ed c) ∧ pg c = 0 ∧ le (ed c) ≤ fr c + 30
theorem rx_pn (post : Int32 → Prop) {j : Nat} {x : Int32} (hx : x = nI j) (I : (rq_L ln fm tt le li rk we op mk wd wn pc ph pa pe pt se ls mo tp ac sz dw st ty ed fr sp go tk en ch ps pg cf ct la gr cr ne nl oe ol fl tl tn N)) (hj : j < 8) (hp : 0 < pc j) (h : post (rb_ (∃ c, c < 32 ∧ rq_nd tt le st ed fr pg se j (4 * j + ph j) c))) : wpX_isPhaseNeeded post (nI tn, rn_A ln, rn_A fm, rn_A tt, rn_A le, rn_A li, rn_A rk, rn_A we, rn_A op, rn_A ca, rn_A mk, rn_B wd, rn_B wn, rn_A pc, rn_A ph, rn_A pa, rn_A pe, rn_A pt, rn_A tp, rn_A ac, rn_A sz, rn_A dw, rn_A st, rn_A ty, rn_A ed, rn_B ps, rn_A fr, rn_A sp, rn_A go, rn_A nz, rn_B pg, rn_B cf, rn_B ct, rn_A tk, rn_A en, rn_B ch, rn_A nw, rn_A tl) x := by
  subst hx
  obtain ⟨p1, p2, p3, p4, p5⟩ := I.2.2.1 j hj
  have q := p3 hp
  obtain ⟨r1, r2, r3, r4, r5⟩ := p5 _ q
  refine ⟨pk_in j 8 hj, ?_⟩
  rw [rn_rA (by omega), show (4 : Int32) * nI j = nI (4 * j) from pk_mul 4 _, nI_add]
  refine ⟨vp_in_nI (by omega) (by omega), nm_r (rn_rA (by omega)) ?_⟩
  rw [r1]
  refine loop_0 (fun n i (_ : Unit) => wX_isPhaseNeeded_18 post (nI j) (nI (se (4 * j + ph j))) (nI tn) (rn_A ln) (rn_A fm) (rn_A tt) (rn_A le) (rn_A li) (rn_A rk) (rn_A we) (rn_A op) (rn_A ca) (rn_A mk) (rn_B wd) (rn_B wn) (rn_A pc) (rn_A ph) (rn_A pa) (rn_A pe) (rn_A pt) (rn_A tp) (rn_A ac) (rn_A sz) (rn_A dw) (rn_A st) (rn_A ty) (rn_A ed) (rn_B ps) (rn_A fr) (rn_A sp) (rn_A go) (rn_A nz) (rn_B pg) (rn_B cf) (rn_B ct) (rn_A tk) (rn_A en) (rn_B ch) (rn_A nw) (rn_A tl) n (nI i)) (fun i _ => ∀ c, c < i → ¬ rq_nd tt le st ed fr pg se j (4 * j + ph j) c) 32 () (fun c hc => absurd hc (Nat.not_lt_zero c)) ?_ ?_
  · intro n _ e
    exact br_t (by decide) (rb_p0 h (fun ⟨c, hc, k⟩ => e c hc k))
  · intro n i _ hi e ih
    have A := rI_c I i
    have B := rI_e I (ed i)
    have P := rI_pg I i hi
    have skip : ¬ rq_nd tt le st ed fr pg se j (4 * j + ph j) i → ∀ y, y = nI i + 1 → wX_isPhaseNeeded_18 post (nI j) (nI (se (4 * j + ph j))) (nI tn) (rn_A ln) (rn_A fm) (rn_A tt) (rn_A le) (rn_A li) (rn_A rk) (rn_A we) (rn_A op) (rn_A ca) (rn_A mk) (rn_B wd) (rn_B wn) (rn_A pc) (rn_A ph) (rn_A pa) (rn_A pe) (rn_A pt) (rn_A tp) (rn_A ac) (rn_A sz) (rn_A dw) (rn_A st) (rn_A ty) (rn_A ed) (rn_B ps) (rn_A fr) (rn_A sp) (rn_A go) (rn_A nz) (rn_B pg) (rn_B cf) (rn_B ct) (rn_A tk) (rn_A en) (rn_B ch) (rn_A nw) (rn_A tl) n y := fun w => nm_r (nI_1 i) (ih () (lt_s e w))
    refine pk_le 32 i (fun z => by omega) (fun _ => ⟨pk_in i 32 hi, nm_r (rn_rA (by omega)) ⟨pk_in i 32 hi, ?_⟩⟩)
    refine ek_f (rn_e (rn_rA (by omega)) (b := 2) rfl (by omega) (by omega)) (fun e1 => ⟨vp_in_nI (by omega) (by omega), ?_⟩) (fun e1 => br_t rfl (skip (fun w => e1 w.1)))
    refine ek_f (rn_e (rn_rA (by omega)) (b := j) rfl (by omega) (by omega)) (fun e2 => ?_) (fun e2 => br_t rfl (skip (fun w => e2 w.2.1)))
    refine ek_f (rd_bt1 (by omega) (by omega)) (fun e3 => br_f (by decide) ⟨pk_in i 32 hi, ?_⟩) (fun e3 => br_t rfl (skip (fun w => e3 w.2.2.1)))
    refine ek_f (rn_2 (rn_rB (by omega)) (b := 0) rfl (by omega) (by omega)) (fun e4 => ⟨pk_in i 32 hi, vp_in_nI (by omega) (by omega), ?_⟩) (fun e4 => skip (fun w => e4 w.2.2.2.1))
    refine ek_f (ri_t (a := (fr i : Int)) (b := (le (ed i) : Int) - 30) (by rw [rn_rA (by omega), ri_n]) (by rw [rn_rA (by omega), ri_n, show (30 : Int32) = ri_z 30 from ri_n 30, ri_sub]) (by omega) (by omega)) (fun e5 => skip (fun w => by have := w.2.2.2.2; omega)) (fun e5 => rb_p1 h ⟨i, hi, e1, e2, e3, e4, by omega⟩)
/-- one light, on both sides -/
theorem rl_lt {j : Nat} (I : (rq_I ln fm tt le li rk we op mk wd wn pc ph pa pe pt se ls mo tp ac sz dw st ty ed fr sp go tk en ch ps pg cf ct la gr cr ne nl oe ol fl tl tn N)) (hj : j < 8) (hp : 0 < pc j) (hN : pa j + 1 ≤ N) : ∃ ph' pa' : Nat → Nat, (rq_I ln fm tt le li rk we op mk wd wn pc ph' pa' pe pt se ls mo tp ac sz dw st ty ed fr sp go tk en ch ps pg cf ct la gr cr ne nl oe ol fl tl tn N) ∧ (∀ i, i ≠ j → pa' i = pa i) ∧
    (∀ post (J : Int32 → (Nat → Int32) → (Nat → Int32) → (Nat → Int32) → (Nat → Int32) → (Nat → Int32) → (Nat → Int32) → (Nat → Int32) → (Nat → Int32) → (Nat → Int32) → (Nat → Int32) → (Nat → Int32) → (Nat → Int32) → (Nat → Int32) → (Nat → Int32) → (Nat → Int32) → (Nat → Int32) → (Nat → Int32) → (Nat → Int32) → (Nat → Int32) → (Nat → Int32) → (Nat → Int32) → (Nat → Int32) → (Nat → Int32) → (Nat → Int32) → (Nat → Int32) → (Nat → Int32) → (Nat → Int32) → (Nat → Int32) → (Nat → Int32) → (Nat → Int32) → (Nat → Int32) → (Nat → Int32) → (Nat → Int32) → (Nat → Int32) → (Nat → Int32) → (Nat → Int32) → (Nat → Int32) → Prop), J (nI (j + 1)) (rn_A ln) (rn_A fm) (rn_A tt) (rn_A le) (rn_A li) (rn_A rk) (rn_A we) (rn_A op) (rn_A ca) (rn_A mk) (rn_B wd) (rn_B wn) (rn_A pc) (rn_A ph') (rn_A pa') (rn_A pe) (rn_A pt) (rn_A tp) (rn_A ac) (rn_A sz) (rn_A dw) (rn_A st) (rn_A ty) (rn_A ed) (rn_B ps) (rn_A fr) (rn_A sp) (rn_A go) (rn_A nz) (rn_B pg) (rn_B cf) (rn_B ct) (rn_A tk) (rn_A en) (rn_B ch) (rn_A nw) (rn_A tl) → vp_in (nI j) 8 ∧ (vp_in (nI j) 8 ∧ ∀ a, a = upd (rn_A pa) (nI j).toNatClampNeg (rn_A pa (nI j).toNatClampNeg + 1) → (vp_in (nI j) 8 ∧ (vp_in (4 * nI j + rn_A ph (nI j).toNatClampNeg) 32 ∧ ∀ t, t = rn_A pt (4 * nI j + rn_A ph (nI j).toNatClampNeg).toNatClampNeg → (vp_in (nI j) 8 ∧ (¬ (100 : Int32) = 0 ∧ ((a (nI j).toNatClampNeg < t / 100 → wX_turnLights_61 post J (nI j) t 0 (nI tn) (rn_A ln) (rn_A fm) (rn_A tt) (rn_A le) (rn_A li) (rn_A rk) (rn_A we) (rn_A op) (rn_A ca) (rn_A mk) (rn_B wd) (rn_B wn) (rn_A pc) (rn_A ph) a (rn_A pe) (rn_A pt) (rn_A tp) (rn_A ac) (rn_A sz) (rn_A dw) (rn_A st) (rn_A ty) (rn_A ed) (rn_B ps) (rn_A fr) (rn_A sp) (rn_A go) (rn_A nz) (rn_B pg) (rn_B cf) (rn_B ct) (rn_A tk) (rn_A en) (rn_B ch) (rn_A nw) (rn_A tl)) ∧ (¬ a (nI j).toNatClampNeg < t / 100 → wX_turnLights_61 post J (nI j) t 1 (nI tn) (rn_A ln) (rn_A fm) (rn_A tt) (rn_A le) (rn_A li) (rn_A rk) (rn_A we) (rn_A op) (rn_A ca) (rn_A mk) (rn_B wd) (rn_B wn) (rn_A pc) (rn_A ph) a (rn_A pe) (rn_A pt) (rn_A tp) (rn_A ac) (rn_A sz) (rn_A dw) (rn_A st) (rn_A ty) (rn_A ed) (rn_B ps) (rn_A fr) (rn_A sp) (rn_A go) (rn_A nz) (rn_B pg) (rn_B cf) (rn_B ct) (rn_A tk) (rn_A en) (rn_B ch) (rn_A nw) (rn_A tl)))))))) ) ∧
    (∀ post kn fa gp fs th, post (nI kn, nI tn, th, rn_T ln, rn_A op, rn_A fm, rn_A tt, rn_A le, rn_A ln, rn_A li, rn_A rk, rn_A we, rn_A ca, rn_A mk, rn_A fa, rn_A tp, rn_A ac, rn_A sz, rn_A dw, rn_A st, rn_A ty, rn_A ed, rn_A la, rn_A fr, rn_A sp, rn_A go, rn_A nz, rn_A tk, rn_C ch, rn_A en, rn_A nw, rn_A gr, rn_A cr, rn_A ne, rn_A nl, rn_A oe, rn_A ol, rn_A fl, rn_A pc, rn_A ph', rn_A pa', rn_A se, rn_A ls, rn_A mo, rn_A tl, gp, fs) → wpY_light post (nI kn, nI tn, th, rn_T ln, rn_A op, rn_A fm, rn_A tt, rn_A le, rn_A ln, rn_A li, rn_A rk, rn_A we, rn_A ca, rn_A mk, rn_A fa, rn_A tp, rn_A ac, rn_A sz, rn_A dw, rn_A st, rn_A ty, rn_A ed, rn_A la, rn_A fr, rn_A sp, rn_A go, rn_A nz, rn_A tk, rn_C ch, rn_A en, rn_A nw, rn_A gr, rn_A cr, rn_A ne, rn_A nl, rn_A oe, rn_A ol, rn_A fl, rn_A pc, rn_A ph, rn_A pa, rn_A se, rn_A ls, rn_A mo, rn_A tl, gp, fs) (nI j)) := by
  obtain ⟨⟨a1, a2, a3, a4, a5, a6, a7, a8⟩, S⟩ := I
  have J0 : (rq_L ln fm tt le li rk we op mk wd wn pc ph pa pe pt se ls mo tp ac sz dw st ty ed fr sp go tk en ch ps pg cf ct la gr cr ne nl oe ol fl tl tn N) := ⟨a1, a2, a3, a4, a5, a6, a7, a8⟩
  obtain ⟨p1, p2, p3, p4, p5⟩ := a3 j hj
  have q := p3 hp
  obtain ⟨r1, r2, r3, r4, r5⟩ := p5 _ q
  have ij : vp_in (nI j) 8 := pk_in j 8 hj
  have hix : (4 : Int32) * nI j + rn_A ph (nI j).toNatClampNeg = nI (4 * j + ph j) := by rw [rn_rA (by omega), show (4 : Int32) * nI j = nI (4 * j) from pk_mul 4 _, nI_add]
  have hag : upd (rn_A pa) (nI j).toNatClampNeg (rn_A pa (nI j).toNatClampNeg + 1) = rn_A (ru_p pa j (pa j + 1)) := by rw [rn_rA (by omega), nI_1]; exact rn_uA (by omega)
  have ag1 : rn_A (ru_p pa j (pa j + 1)) (nI j).toNatClampNeg = nI (pa j + 1) := by rw [rn_rA (by omega), ru_s]
  have mo1 : pt (4 * j + ph j) / 100 = mo (4 * j + ph j) := by omega
  have ls1 : pt (4 * j + ph j) % 100 = ls (4 * j + ph j) := by omega
  -- the relation after the age has grown, and after the next phase
  have PA : ∀ x, x ≤ N → (rq_P pc ph (ru_p pa j x) pe pt se ls mo N) := by
    intro x hx i hi
    obtain ⟨b1, b2, b3, b4, b5⟩ := a3 i hi
    rcases Nat.decEq i j with z | z
    · rw [ru_n z]; exact ⟨b1, b2, b3, b4, b5⟩
    · subst z; rw [ru_s]; exact ⟨b1, fun w => by omega, b3, hx, b5⟩
  have PB : (rq_P pc (ru_p ph j ((ph j + 1) % pc j)) (ru_p (ru_p pa j (pa j + 1)) j 0) pe pt se ls mo N) := by
    intro i hi
    obtain ⟨b1, b2, b3, b4, b5⟩ := a3 i hi
    rcases Nat.decEq i j with z | z
    · rw [ru_n z, ru_n z, ru_n z]; exact ⟨b1, b2, b3, b4, b5⟩
    · subst z; rw [ru_s, ru_s]; exact ⟨b1, fun w => by omega, fun _ => Nat.mod_lt _ hp, by omega, b5⟩
  have x87 : ∀ (post : SX → Prop) (J : Int32 → (Nat → Int32) → (Nat → Int32) → (Nat → Int32) → (Nat → Int32) → (Nat → Int32) → (Nat → Int32) → (Nat → Int32) → (Nat → Int32) → (Nat → Int32) → (Nat → Int32) → (Nat → Int32) → (Nat → Int32) → (Nat → Int32) → (Nat → Int32) → (Nat → Int32) → (Nat → Int32) → (Nat → Int32) → (Nat → Int32) → (Nat → Int32) → (Nat → Int32) → (Nat → Int32) → (Nat → Int32) → (Nat → Int32) → (Nat → Int32) → (Nat → Int32) → (Nat → Int32) → (Nat → Int32) → (Nat → Int32) → (Nat → Int32) → (Nat → Int32) → (Nat → Int32) → (Nat → Int32) → (Nat → Int32) → (Nat → Int32) → (Nat → Int32) → (Nat → Int32) → (Nat → Int32) → Prop), J (nI (j + 1)) (rn_A ln) (rn_A fm) (rn_A tt) (rn_A le) (rn_A li) (rn_A rk) (rn_A we) (rn_A op) (rn_A ca) (rn_A mk) (rn_B wd) (rn_B wn) (rn_A pc) (rn_A (ru_p ph j ((ph j + 1) % pc j))) (rn_A (ru_p (ru_p pa j (pa j + 1)) j 0)) (rn_A pe) (rn_A pt) (rn_A tp) (rn_A ac) (rn_A sz) (rn_A dw) (rn_A st) (rn_A ty) (rn_A ed) (rn_B ps) (rn_A fr) (rn_A sp) (rn_A go) (rn_A nz) (rn_B pg) (rn_B cf) (rn_B ct) (rn_A tk) (rn_A en) (rn_B ch) (rn_A nw) (rn_A tl) → wX_turnLights_87 post J (nI j) (nI tn) (rn_A ln) (rn_A fm) (rn_A tt) (rn_A le) (rn_A li) (rn_A rk) (rn_A we) (rn_A op) (rn_A ca) (rn_A mk) (rn_B wd) (rn_B wn) (rn_A pc) (rn_A ph) (rn_A (ru_p pa j (pa j + 1))) (rn_A pe) (rn_A pt) (rn_A tp) (rn_A ac) (rn_A sz) (rn_A dw) (rn_A st) (rn_A ty) (rn_A ed) (rn_B ps) (rn_A fr) (rn_A sp) (rn_A go) (rn_A nz) (rn_B pg) (rn_B cf) (rn_B ct) (rn_A tk) (rn_A en) (rn_B ch) (rn_A nw) (rn_A tl) := by
    intro post J h
    unfold wX_turnLights_87
    rw [rn_rA (f := ph) (by omega), rn_rA (f := pc) (by omega), nI_1, show nI (ph j + 1) - nI (ph j + 1) / nI (pc j) * nI (pc j) = nI ((ph j + 1) % pc j) from pk_rem (by omega) (by omega) (by omega)]
    exact ⟨ij, ij, nI_ne0 hp (by omega), ij, nm_r (rn_uA (by omega)) ⟨ij, nm_r (rn_uA (x := 0) (by omega)) (nm_r (nI_1 j) h)⟩⟩
  have y158 : ∀ (post : SY → Prop) kn fa gp fs th, post (nI kn, nI tn, th, rn_T ln, rn_A op, rn_A fm, rn_A tt, rn_A le, rn_A ln, rn_A li, rn_A rk, rn_A we, rn_A ca, rn_A mk, rn_A fa, rn_A tp, rn_A ac, rn_A sz, rn_A dw, rn_A st, rn_A ty, rn_A ed, rn_A la, rn_A fr, rn_A sp, rn_A go, rn_A nz, rn_A tk, rn_C ch, rn_A en, rn_A nw, rn_A gr, rn_A cr, rn_A ne, rn_A nl, rn_A oe, rn_A ol, rn_A fl, rn_A pc, rn_A (ru_p ph j ((ph j + 1) % pc j)), rn_A (ru_p (ru_p pa j (pa j + 1)) j 0), rn_A se, rn_A ls, rn_A mo, rn_A tl, gp, fs) → wY_light_158 post (nI j) (nI kn) (nI tn) th (rn_T ln) (rn_A op) (rn_A fm) (rn_A tt) (rn_A le) (rn_A ln) (rn_A li) (rn_A rk) (rn_A we) (rn_A ca) (rn_A mk) (rn_A fa) (rn_A tp) (rn_A ac) (rn_A sz) (rn_A dw) (rn_A st) (rn_A ty) (rn_A ed) (rn_A la) (rn_A fr) (rn_A sp) (rn_A go) (rn_A nz) (rn_A tk) (rn_C ch) (rn_A en) (rn_A nw) (rn_A gr) (rn_A cr) (rn_A ne) (rn_A nl) (rn_A oe) (rn_A ol) (rn_A fl) (rn_A pc) (rn_A ph) (rn_A (ru_p pa j (pa j + 1))) (rn_A se) (rn_A ls) (rn_A mo) (rn_A tl) gp fs := by
    intro post kn fa gp fs th h
    unfold wY_light_158
    rw [rn_rA (f := ph) (by omega), rn_rA (f := pc) (by omega), nI_1, show nI (ph j + 1) - nI (ph j + 1) / nI (pc j) * nI (pc j) = nI ((ph j + 1) % pc j) from pk_rem (by omega) (by omega) (by omega)]
    exact ⟨ij, ij, nI_ne0 hp (by omega), ij, nm_r (rn_uA (by omega)) ⟨ij, nm_r (rn_uA (x := 0) (by omega)) h⟩⟩
  -- Y's scan
  have yscan : ∀ (post : SY → Prop) kn fa gp fs th, (mo (4 * j + ph j) ≤ pa j + 1 ∨ (ls (4 * j + ph j) ≤ pa j + 1 ∧ ¬ ∃ c, c < 32 ∧ rq_nd tt le st ed fr pg se j (4 * j + ph j) c) → wY_light_158 post (nI j) (nI kn) (nI tn) th (rn_T ln) (rn_A op) (rn_A fm) (rn_A tt) (rn_A le) (rn_A ln) (rn_A li) (rn_A rk) (rn_A we) (rn_A ca) (rn_A mk) (rn_A fa) (rn_A tp) (rn_A ac) (rn_A sz) (rn_A dw) (rn_A st) (rn_A ty) (rn_A ed) (rn_A la) (rn_A fr) (rn_A sp) (rn_A go) (rn_A nz) (rn_A tk) (rn_C ch) (rn_A en) (rn_A nw) (rn_A gr) (rn_A cr) (rn_A ne) (rn_A nl) (rn_A oe) (rn_A ol) (rn_A fl) (rn_A pc) (rn_A ph) (rn_A (ru_p pa j (pa j + 1))) (rn_A se) (rn_A ls) (rn_A mo) (rn_A tl) gp fs) → (¬ (mo (4 * j + ph j) ≤ pa j + 1 ∨ (ls (4 * j + ph j) ≤ pa j + 1 ∧ ¬ ∃ c, c < 32 ∧ rq_nd tt le st ed fr pg se j (4 * j + ph j) c)) → post (nI kn, nI tn, th, rn_T ln, rn_A op, rn_A fm, rn_A tt, rn_A le, rn_A ln, rn_A li, rn_A rk, rn_A we, rn_A ca, rn_A mk, rn_A fa, rn_A tp, rn_A ac, rn_A sz, rn_A dw, rn_A st, rn_A ty, rn_A ed, rn_A la, rn_A fr, rn_A sp, rn_A go, rn_A nz, rn_A tk, rn_C ch, rn_A en, rn_A nw, rn_A gr, rn_A cr, rn_A ne, rn_A nl, rn_A oe, rn_A ol, rn_A fl, rn_A pc, rn_A ph, rn_A (ru_p pa j (pa j + 1)), rn_A se, rn_A ls, rn_A mo, rn_A tl, gp, fs)) → wpY_light post (nI kn, nI tn, th, rn_T ln, rn_A op, rn_A fm, rn_A tt, rn_A le, rn_A ln, rn_A li, rn_A rk, rn_A we, rn_A ca, rn_A mk, rn_A fa, rn_A tp, rn_A ac, rn_A sz, rn_A dw, rn_A st, rn_A ty, rn_A ed, rn_A la, rn_A fr, rn_A sp, rn_A go, rn_A nz, rn_A tk, rn_C ch, rn_A en, rn_A nw, rn_A gr, rn_A cr, rn_A ne, rn_A nl, rn_A oe, rn_A ol, rn_A fl, rn_A pc, rn_A ph, rn_A pa, rn_A se, rn_A ls, rn_A mo, rn_A tl, gp, fs) (nI j) := by
    intro post kn fa gp fs th h1 h0
    refine ⟨ij, ij, nm_r hag ⟨ij, nm_r hix ?_⟩⟩
    refine loop_0 (fun n i (b : Nat) => wY_light_26 post (nI j) (nI (4 * j + ph j)) (nI kn) (nI tn) th (rn_T ln) (rn_A op) (rn_A fm) (rn_A tt) (rn_A le) (rn_A ln) (rn_A li) (rn_A rk) (rn_A we) (rn_A ca) (rn_A mk) (rn_A fa) (rn_A tp) (rn_A ac) (rn_A sz) (rn_A dw) (rn_A st) (rn_A ty) (rn_A ed) (rn_A la) (rn_A fr) (rn_A sp) (rn_A go) (rn_A nz) (rn_A tk) (rn_C ch) (rn_A en) (rn_A nw) (rn_A gr) (rn_A cr) (rn_A ne) (rn_A nl) (rn_A oe) (rn_A ol) (rn_A fl) (rn_A pc) (rn_A ph) (rn_A (ru_p pa j (pa j + 1))) (rn_A se) (rn_A ls) (rn_A mo) (rn_A tl) gp fs n (nI b) (nI i)) (fun i b => b ≤ 1 ∧ (b = 0 ↔ ∃ c, c < i ∧ rq_nd tt le st ed fr pg se j (4 * j + ph j) c)) 32 1 ⟨by omega, fun z => by omega, fun ⟨c, hc, _⟩ => absurd hc (Nat.not_lt_zero c)⟩ ?_ ?_
    · rintro n b ⟨b1, b2⟩
      refine br_t (by decide) ⟨ij, vp_in_nI (by omega) (by omega), ?_⟩
      rw [ag1, rn_rA (f := mo) (by omega), rn_rA (f := ls) (by omega)]
      refine pk_le (mo (4 * j + ph j)) (pa j + 1) (fun k => h1 (Or.inl k)) (fun k => ⟨ij, vp_in_nI (by omega) (by omega), pk_lt (pa j + 1) (ls (4 * j + ph j)) (fun k2 => h0 (fun w => by omega)) (fun k2 => ?_)⟩)
      exact ek_f (rn_e rfl (b := 0) rfl (by omega) (by omega)) (fun k3 => h0 (fun w => w.elim (fun v => by omega) (fun v => v.2 (b2.mp k3)))) (fun k3 => h1 (Or.inr ⟨k2, fun w => k3 (b2.mpr w)⟩))
    · rintro n i b hi ⟨b1, b2⟩ ih
      have A := rI_c J0 i
      have B := rI_e J0 (ed i)
      have G := rI_gd J0 i hi
      have skip : ¬ rq_nd tt le st ed fr pg se j (4 * j + ph j) i → ∀ y, y = nI i + 1 → wY_light_26 post (nI j) (nI (4 * j + ph j)) (nI kn) (nI tn) th (rn_T ln) (rn_A op) (rn_A fm) (rn_A tt) (rn_A le) (rn_A ln) (rn_A li) (rn_A rk) (rn_A we) (rn_A ca) (rn_A mk) (rn_A fa) (rn_A tp) (rn_A ac) (rn_A sz) (rn_A dw) (rn_A st) (rn_A ty) (rn_A ed) (rn_A la) (rn_A fr) (rn_A sp) (rn_A go) (rn_A nz) (rn_A tk) (rn_C ch) (rn_A en) (rn_A nw) (rn_A gr) (rn_A cr) (rn_A ne) (rn_A nl) (rn_A oe) (rn_A ol) (rn_A fl) (rn_A pc) (rn_A ph) (rn_A (ru_p pa j (pa j + 1))) (rn_A se) (rn_A ls) (rn_A mo) (rn_A tl) gp fs n (nI b) y := by
        intro w
        refine nm_r (nI_1 i) (ih b ⟨b1, ?_⟩)
        rw [b2]
        constructor
        · rintro ⟨d, d1, d2⟩; exact ⟨d, by omega, d2⟩
        · rintro ⟨d, d1, d2⟩
          rcases Nat.decEq d i with z | z
          · exact ⟨d, by omega, d2⟩
          · subst z; exact absurd d2 w
      refine pk_le 32 i (fun z => by omega) (fun _ => ⟨pk_in i 32 hi, ?_⟩)
      refine ek_f (rn_e (rn_rA (by omega)) (b := 2) rfl (by omega) (by omega)) (fun e1 => ⟨pk_in i 32 hi, ?_⟩) (fun e1 => skip (fun w => e1 w.1))
      refine ek_f (rn_e (rn_rA (by omega)) (b := 0) rfl (by omega) (by omega)) (fun e2 => ⟨pk_in i 32 hi, rn_iA (by omega) A.2.2.1 (by omega), ?_⟩) (fun e2 => skip (fun w => by have := w.2.2.2.1; omega))
      refine ek_f (rn_e (rn_AA (by omega) (by omega)) (b := j) rfl (by omega) (by omega)) (fun e3 => ⟨vp_in_nI (by omega) (by omega), pk_in i 32 hi, ?_⟩) (fun e3 => skip (fun w => e3 w.2.1))
      rw [rn_rA (f := se) (by omega), rn_rA (f := ed) (by omega)]
      refine ek_f (rd_bt1 (by omega) (by omega)) (fun e4 => ⟨pk_in i 32 hi, vp_in_nI (by omega) (by omega), pk_in i 32 hi, ?_⟩) (fun e4 => skip (fun w => e4 w.2.2.1))
      refine ek_f (ri_t (ri_n 30) (b := (le (ed i) : Int) - fr i) (by rw [rn_rA (by omega), rn_rA (by omega), ri_n, ri_n, ri_sub]) (by omega) (by omega)) (fun e5 => skip (fun w => by have := w.2.2.2.2; omega)) (fun e5 => nm_r (nI_1 i) (ih 0 ⟨by omega, fun _ => ⟨i, by omega, e1, e3, e4, by omega, by omega⟩, fun _ => rfl⟩))
  rcases Classical.em (mo (4 * j + ph j) ≤ pa j + 1 ∨ (ls (4 * j + ph j) ≤ pa j + 1 ∧ ¬ ∃ c, c < 32 ∧ rq_nd tt le st ed fr pg se j (4 * j + ph j) c)) with T | T
  · refine ⟨ru_p ph j ((ph j + 1) % pc j), ru_p (ru_p pa j (pa j + 1)) j 0, ⟨⟨a1, a2, PB, a4, a5, a6, a7, a8⟩, S⟩, fun i hi => by rw [ru_n hi, ru_n hi], fun post J h => ⟨ij, ij, nm_r hag ⟨ij, ?_⟩⟩, fun post kn fa gp fs th h => yscan post kn fa gp fs th (fun _ => y158 post kn fa gp fs th h) (fun k => absurd T k)⟩
    rw [hix]
    refine ⟨vp_in_nI (by omega) (by omega), nm_r (rn_rA (by omega)) ⟨ij, by decide, ?_⟩⟩
    rw [ag1, show nI (pt (4 * j + ph j)) / 100 = nI (pt (4 * j + ph j) / 100) from pk_div (d := 100) (by omega) (by omega) (by omega), mo1]
    refine pk_lt (pa j + 1) (mo (4 * j + ph j)) (fun k => br_t rfl ⟨ij, by decide, ?_⟩) (fun k => br_f (by decide) (x87 post J h))
    rw [ag1, show nI (pt (4 * j + ph j)) - nI (pt (4 * j + ph j)) / 100 * 100 = nI (pt (4 * j + ph j) % 100) from pk_rem (d := 100) (by omega) (by omega) (by omega), ls1]
    refine pk_lt (pa j + 1) (ls (4 * j + ph j)) (fun k2 => ?_) (fun k2 => rx_pn _ rfl (⟨a1, a2, PA _ hN, a4, a5, a6, a7, a8⟩ : (rq_L ln fm tt le li rk we op mk wd wn pc ph (ru_p pa j (pa j + 1)) pe pt se ls mo tp ac sz dw st ty ed fr sp go tk en ch ps pg cf ct la gr cr ne nl oe ol fl tl tn N)) hj hp (rb_b (fun k3 => x87 post J h) (fun k3 => ?_)))
    · rcases T with z | z
      · omega
      · omega
    · rcases T with z | z
      · omega
      · exact absurd k3 z.2
  · refine ⟨ph, ru_p pa j (pa j + 1), ⟨⟨a1, a2, PA _ hN, a4, a5, a6, a7, a8⟩, S⟩, fun i hi => by rw [ru_n hi], fun post J h => ⟨ij, ij, nm_r hag ⟨ij, ?_⟩⟩, fun post kn fa gp fs th h => yscan post kn fa gp fs th (fun k => absurd k T) (fun _ => h)⟩
    rw [hix]
    refine ⟨vp_in_nI (by omega) (by omega), nm_r (rn_rA (by omega)) ⟨ij, by decide, ?_⟩⟩
    rw [ag1, show nI (pt (4 * j + ph j)) / 100 = nI (pt (4 * j + ph j) / 100) from pk_div (d := 100) (by omega) (by omega) (by omega), mo1]
    refine pk_lt (pa j + 1) (mo (4 * j + ph j)) (fun k => br_t rfl ⟨ij, by decide, ?_⟩) (fun k => absurd (Or.inl k) T)
    rw [ag1, show nI (pt (4 * j + ph j)) - nI (pt (4 * j + ph j)) / 100 * 100 = nI (pt (4 * j + ph j) % 100) from pk_rem (d := 100) (by omega) (by omega) (by omega), ls1]
    exact pk_lt (pa j + 1) (ls (4 * j + ph j)) (fun k2 => nm_r (nI_1 j) h) (fun k2 => rx_pn _ rfl (⟨a1, a2, PA _ hN, a4, a5, a6, a7, a8⟩ : (rq_L ln fm tt le li rk we op mk wd wn pc ph (ru_p pa j (pa j + 1)) pe pt se ls mo tp ac sz dw st ty ed fr sp go tk en ch ps pg cf ct la gr cr ne nl oe ol fl tl tn N)) hj hp (rb_b (fun k3 => absurd (Or.inr ⟨k2, k3⟩) T) (fun k3 => nm_r (nI_1 j) h)))
theorem rl_lts : ∀ d j, j + d = 8 → ∀ ph pa : Nat → Nat, (rq_I ln fm tt le li rk we op mk wd wn pc ph pa pe pt se ls mo tp ac sz dw st ty ed fr sp go tk en ch ps pg cf ct la gr cr ne nl oe ol fl tl tn N) → (∀ i, j ≤ i → i < 8 → pa i + 1 ≤ N) → ∃ ph' pa' : Nat → Nat, (rq_I ln fm tt le li rk we op mk wd wn pc ph' pa' pe pt se ls mo tp ac sz dw st ty ed fr sp go tk en ch ps pg cf ct la gr cr ne nl oe ol fl tl tn N) ∧
    (∀ post, post (nI tn, rn_A ln, rn_A fm, rn_A tt, rn_A le, rn_A li, rn_A rk, rn_A we, rn_A op, rn_A ca, rn_A mk, rn_B wd, rn_B wn, rn_A pc, rn_A ph', rn_A pa', rn_A pe, rn_A pt, rn_A tp, rn_A ac, rn_A sz, rn_A dw, rn_A st, rn_A ty, rn_A ed, rn_B ps, rn_A fr, rn_A sp, rn_A go, rn_A nz, rn_B pg, rn_B cf, rn_B ct, rn_A tk, rn_A en, rn_B ch, rn_A nw, rn_A tl) → wX_turnLights_2 post (nI tn) (d + 1) (nI j) (rn_A ln) (rn_A fm) (rn_A tt) (rn_A le) (rn_A li) (rn_A rk) (rn_A we) (rn_A op) (rn_A ca) (rn_A mk) (rn_B wd) (rn_B wn) (rn_A pc) (rn_A ph) (rn_A pa) (rn_A pe) (rn_A pt) (rn_A tp) (rn_A ac) (rn_A sz) (rn_A dw) (rn_A st) (rn_A ty) (rn_A ed) (rn_B ps) (rn_A fr) (rn_A sp) (rn_A go) (rn_A nz) (rn_B pg) (rn_B cf) (rn_B ct) (rn_A tk) (rn_A en) (rn_B ch) (rn_A nw) (rn_A tl)) ∧
    (∀ post kn fa gp fs th, (∃ n40, wY_stepOn_40 post n40 0 (nI kn) (nI tn) th (rn_T ln) (rn_A op) (rn_A fm) (rn_A tt) (rn_A le) (rn_A ln) (rn_A li) (rn_A rk) (rn_A we) (rn_A ca) (rn_A mk) (rn_A fa) (rn_A tp) (rn_A ac) (rn_A sz) (rn_A dw) (rn_A st) (rn_A ty) (rn_A ed) (rn_A la) (rn_A fr) (rn_A sp) (rn_A go) (rn_A nz) (rn_A tk) (rn_C ch) (rn_A en) (rn_A nw) (rn_A gr) (rn_A cr) (rn_A ne) (rn_A nl) (rn_A oe) (rn_A ol) (rn_A fl) (rn_A pc) (rn_A ph') (rn_A pa') (rn_A se) (rn_A ls) (rn_A mo) (rn_A tl) gp fs) → wY_stepOn_12 post (d + 1) (nI j) (nI kn) (nI tn) th (rn_T ln) (rn_A op) (rn_A fm) (rn_A tt) (rn_A le) (rn_A ln) (rn_A li) (rn_A rk) (rn_A we) (rn_A ca) (rn_A mk) (rn_A fa) (rn_A tp) (rn_A ac) (rn_A sz) (rn_A dw) (rn_A st) (rn_A ty) (rn_A ed) (rn_A la) (rn_A fr) (rn_A sp) (rn_A go) (rn_A nz) (rn_A tk) (rn_C ch) (rn_A en) (rn_A nw) (rn_A gr) (rn_A cr) (rn_A ne) (rn_A nl) (rn_A oe) (rn_A ol) (rn_A fl) (rn_A pc) (rn_A ph) (rn_A pa) (rn_A se) (rn_A ls) (rn_A mo) (rn_A tl) gp fs) := by
  intro d
  induction d with
  | zero =>
    intro j hj ph pa I hN
    have e8 : j = 8 := by omega
    subst e8
    exact ⟨ph, pa, I, fun post h => br_t (by decide) h, fun post kn fa gp fs th h => br_t (by decide) h⟩
  | succ d ih =>
    intro j hj ph pa I hN
    have j8 : j < 8 := by omega
    have P := (I.1.2.2.1 j j8).1
    rcases Nat.eq_zero_or_pos (pc j) with q | q
    · obtain ⟨ph', pa', I', x, y⟩ := ih (j + 1) (by omega) ph pa I (fun i h1 h2 => hN i (by omega) h2)
      refine ⟨ph', pa', I', fun post h => br_f (nI_ge (b := 8) j8 (by decide)) ⟨pk_in j 8 j8, pk_le (pc j) 0 (fun _ => nm_r (nI_1 j) (x post h)) (fun z => by omega) (rn_rA (by omega))⟩, fun post kn fa gp fs th h => br_f (nI_ge (b := 8) j8 (by decide)) ⟨pk_in j 8 j8, pk_le (pc j) 0 (fun _ => nm_r (nI_1 j) (y post kn fa gp fs th h)) (fun z => by omega) (rn_rA (by omega))⟩⟩
    · obtain ⟨ph1, pa1, I1, o1, x1, y1⟩ := rl_lt I j8 q (hN j (Nat.le_refl _) j8)
      obtain ⟨ph', pa', I', x, y⟩ := ih (j + 1) (by omega) ph1 pa1 I1 (fun i h1 h2 => by rw [o1 i (by omega)]; exact hN i (by omega) h2)
      refine ⟨ph', pa', I', fun post h => br_f (nI_ge (b := 8) j8 (by decide)) ⟨pk_in j 8 j8, pk_le (pc j) 0 (fun z => by omega) (fun _ => x1 post _ (x post h)) (rn_rA (by omega))⟩, fun post kn fa gp fs th h => br_f (nI_ge (b := 8) j8 (by decide)) ⟨pk_in j 8 j8, pk_le (pc j) 0 (fun z => by omega) (fun _ => y1 _ kn fa gp fs th (nm_r (nI_1 j) (y post kn fa gp fs th h))) (rn_rA (by omega))⟩⟩
end
