/-! MOVES: Y's speeds, the dawdling, all the cars -/
/-- the noise that decides -/
def rq_rm (z : Nat) : Int32 := (((nI z).toUInt32 >>> ((16 : Int32).toUInt32 &&& Int32.toUInt32 31)).toInt32) - (((nI z).toUInt32 >>> ((16 : Int32).toUInt32 &&& Int32.toUInt32 31)).toInt32) / 10 * 10
noncomputable def rq_dd (d z v u : Nat) : Nat := @ite Nat (¬ nI d ≤ rq_rm z ∧ 0 < u ∧ v ≤ u + 1) (Classical.propDecidable _) (u - 1) u
theorem rq_ddI (d z v u : Nat) : rq_dd d z v u = u ∨ (rq_dd d z v u + 1 = u ∧ v ≤ rq_dd d z v u + 2) := by
  unfold rq_dd
  by_cases h : ¬ nI d ≤ rq_rm z ∧ 0 < u ∧ v ≤ u + 1
  · rw [if_pos h]; omega
  · rw [if_neg h]; exact Or.inl rfl
def rq_nz (z : Nat) : Nat := z * 1103515245 + 12345
theorem rn_nz {nz : Nat → Nat} {c : Nat} (hc : c < 2 ^ 31) : upd (rn_A nz) (nI c).toNatClampNeg (rn_A nz (nI c).toNatClampNeg * 1103515245 + 12345) = rn_A (ru_p nz c (rq_nz (nz c))) := by
  rw [rn_rA hc, show (1103515245 : Int32) = nI 1103515245 from rfl, show (12345 : Int32) = nI 12345 from rfl, pk_mul, nI_add]
  exact rn_uA hc
section
variable {ln fm tt le li rk we op ca mk wd wn fa pc ph pa pe pt se ls mo tp ac sz dw st ty ed fr sp go nz tk en ch nw ps pg cf ct la gr cr ne nl oe ol fl tl : Nat → Nat} {tn kn N : Nat} {th : Int32} {gp fs : Nat → Int32}
theorem rx_dd (post : Int32 → SX → Prop) {c u : Nat} {x y : Int32} (hx : x = nI c) (hy : y = nI u) (I : (rq_L ln fm tt le li rk we op mk wd wn pc ph pa pe pt se ls mo tp ac sz dw st ty ed fr sp go tk en ch ps pg cf ct la gr cr ne nl oe ol fl tl tn N)) (hc : c < 32) (hu : u ≤ 12) (h : post (nI (rq_dd (dw (ty c)) (rq_nz (nz c)) (sp c) u)) (nI tn, rn_A ln, rn_A fm, rn_A tt, rn_A le, rn_A li, rn_A rk, rn_A we, rn_A op, rn_A ca, rn_A mk, rn_B wd, rn_B wn, rn_A pc, rn_A ph, rn_A pa, rn_A pe, rn_A pt, rn_A tp, rn_A ac, rn_A sz, rn_A dw, rn_A st, rn_A ty, rn_A ed, rn_B ps, rn_A fr, rn_A sp, rn_A go, rn_A (ru_p nz c (rq_nz (nz c))), rn_B pg, rn_B cf, rn_B ct, rn_A tk, rn_A en, rn_B ch, rn_A nw, rn_A tl)) : wpX_dawdled post (nI tn, rn_A ln, rn_A fm, rn_A tt, rn_A le, rn_A li, rn_A rk, rn_A we, rn_A op, rn_A ca, rn_A mk, rn_B wd, rn_B wn, rn_A pc, rn_A ph, rn_A pa, rn_A pe, rn_A pt, rn_A tp, rn_A ac, rn_A sz, rn_A dw, rn_A st, rn_A ty, rn_A ed, rn_B ps, rn_A fr, rn_A sp, rn_A go, rn_A nz, rn_B pg, rn_B cf, rn_B ct, rn_A tk, rn_A en, rn_B ch, rn_A nw, rn_A tl) x y := by
  subst hx hy
  have A := rI_c I c
  refine ⟨pk_in c 32 hc, pk_in c 32 hc, nm_r (rn_nz (by omega)) ⟨pk_in c 32 hc, by decide, pk_in c 32 hc, rn_iA (by omega) A.2.1 (by omega), ?_⟩⟩
  rw [rn_AA (by omega) (by omega), rn_rA (f := ru_p nz c (rq_nz (nz c))) (by omega), ru_s]
  unfold rq_dd at h
  refine br_c (fun k => br_t rfl ?_) (fun k => br_f (by decide) ?_)
  · rw [if_neg (fun w => w.1 k)] at h; exact h
  · refine pk_le u 0 (fun k2 => ?_) (fun k2 => ⟨pk_in c 32 hc, ?_⟩)
    · rw [if_neg (fun w => by have := w.2.1; omega)] at h; exact h
    · have e1 : nI u - 1 = ri_z ((u : Int) - 1) := by rw [ri_n, show (1 : Int32) = ri_z 1 from ri_n 1, ri_sub]
      have e2 : rn_A sp (nI c).toNatClampNeg - 2 = ri_z ((sp c : Int) - 2) := by rw [rn_rA (by omega), ri_n, show (2 : Int32) = ri_z 2 from ri_n 2, ri_sub]
      refine ek_f (ri_t e1 e2 (by omega) (by omega)) (fun k3 => ?_) (fun k3 => ?_)
      · rw [if_neg (fun w => by have := w.2.2; omega)] at h; exact h
      · rw [if_pos ⟨k, k2, by omega⟩] at h
        rw [show (1 : Int32) = nI 1 from rfl, pk_sub (by omega)]
        exact h
theorem ry_fit (post : Int32 → Prop) {t u : Nat} {x : Int32} (hx : x = nI u) (ht : t ≤ 2) (hu : u ≤ 12) (hs : ∀ k, k < t → rq_Sh (gp k) (fs k)) (h : post (rb_ (∀ k, k < t → rq_F u (gp k) (fs k)))) : wpY_fits post (nI kn, nI tn, nI t, rn_T ln, rn_A op, rn_A fm, rn_A tt, rn_A le, rn_A ln, rn_A li, rn_A rk, rn_A we, rn_A ca, rn_A mk, rn_A fa, rn_A tp, rn_A ac, rn_A sz, rn_A dw, rn_A st, rn_A ty, rn_A ed, rn_A la, rn_A fr, rn_A sp, rn_A go, rn_A nz, rn_A tk, rn_C ch, rn_A en, rn_A nw, rn_A gr, rn_A cr, rn_A ne, rn_A nl, rn_A oe, rn_A ol, rn_A fl, rn_A pc, rn_A ph, rn_A pa, rn_A se, rn_A ls, rn_A mo, rn_A tl, gp, fs) x := by
  subst hx
  have d1 := rn_D6 u (by omega)
  unfold wpY_fits
  refine ry_st _ (by omega) ?_
  refine loop_0 (fun n i (_ : Unit) => wY_fits_7 post (nI u) (nI (rd_D u)) (nI kn) (nI tn) (nI t) (rn_T ln) (rn_A op) (rn_A fm) (rn_A tt) (rn_A le) (rn_A ln) (rn_A li) (rn_A rk) (rn_A we) (rn_A ca) (rn_A mk) (rn_A fa) (rn_A tp) (rn_A ac) (rn_A sz) (rn_A dw) (rn_A st) (rn_A ty) (rn_A ed) (rn_A la) (rn_A fr) (rn_A sp) (rn_A go) (rn_A nz) (rn_A tk) (rn_C ch) (rn_A en) (rn_A nw) (rn_A gr) (rn_A cr) (rn_A ne) (rn_A nl) (rn_A oe) (rn_A ol) (rn_A fl) (rn_A pc) (rn_A ph) (rn_A pa) (rn_A se) (rn_A ls) (rn_A mo) (rn_A tl) gp fs n (nI i)) (fun i _ => ∀ k, k < i → rq_F u (gp k) (fs k)) t () (fun k hk => absurd hk (Nat.not_lt_zero k)) ?_ ?_
  · intro n _ e
    exact br_t (nI_le (Nat.le_refl _) (by omega)) (rb_p1 h e)
  · intro n i _ hi e ih
    obtain ⟨a, b, ea, eb, ha, hb⟩ := hs i hi
    have d2 := rn_D6 b hb
    have fe := rq_FE (u := u) ha hb
    rw [← ea, ← eb] at fe
    have i2 : vp_in (nI i) 2 := pk_in i 2 (by omega)
    have e1 : gp (nI i).toNatClampNeg = ri_z a := by rw [nI_clamp (by omega)]; exact ea
    have e2 : fs (nI i).toNatClampNeg = nI b := by rw [nI_clamp (by omega)]; exact eb
    have s48 : ∀ z : Nat, z = b - 2 → wY_fits_48 post (wY_fits_7 post (nI u) (nI (rd_D u)) (nI kn) (nI tn) (nI t) (rn_T ln) (rn_A op) (rn_A fm) (rn_A tt) (rn_A le) (rn_A ln) (rn_A li) (rn_A rk) (rn_A we) (rn_A ca) (rn_A mk) (rn_A fa) (rn_A tp) (rn_A ac) (rn_A sz) (rn_A dw) (rn_A st) (rn_A ty) (rn_A ed) (rn_A la) (rn_A fr) (rn_A sp) (rn_A go) (rn_A nz) (rn_A tk) (rn_C ch) (rn_A en) (rn_A nw) (rn_A gr) (rn_A cr) (rn_A ne) (rn_A nl) (rn_A oe) (rn_A ol) (rn_A fl) (rn_A pc) (rn_A ph) (rn_A pa) (rn_A se) (rn_A ls) (rn_A mo) (rn_A tl) gp fs n) (nI u) (nI (rd_D u)) (nI i) (nI (rd_D b)) (nI z) (nI kn) (nI tn) (nI t) (rn_T ln) (rn_A op) (rn_A fm) (rn_A tt) (rn_A le) (rn_A ln) (rn_A li) (rn_A rk) (rn_A we) (rn_A ca) (rn_A mk) (rn_A fa) (rn_A tp) (rn_A ac) (rn_A sz) (rn_A dw) (rn_A st) (rn_A ty) (rn_A ed) (rn_A la) (rn_A fr) (rn_A sp) (rn_A go) (rn_A nz) (rn_A tk) (rn_C ch) (rn_A en) (rn_A nw) (rn_A gr) (rn_A cr) (rn_A ne) (rn_A nl) (rn_A oe) (rn_A ol) (rn_A fl) (rn_A pc) (rn_A ph) (rn_A pa) (rn_A se) (rn_A ls) (rn_A mo) (rn_A tl) gp fs := by
      intro z hz
      unfold wY_fits_48
      rw [e1]
      refine ⟨i2, ek_f (ri_t (a := a + (z : Int)) (by rw [ri_n, ri_add]) (ri_n u) (by omega) (by omega)) (fun k1 => rb_p0 h (fun w => by have := (fe.mp (w i hi)).1; omega)) (fun k1 => ⟨i2, ?_⟩)⟩
      refine ek_f (ri_l (a := (u : Int) + rd_D u) (b := a + rd_D b) (by rw [ri_n, ri_n, ri_add]) (by rw [ri_n, ri_add]) (by omega) (by omega)) (fun k2 => nm_r (nI_1 i) (ih () (lt_s e (fe.mpr ⟨by omega, k2⟩)))) (fun k2 => rb_p0 h (fun w => k2 (fe.mp (w i hi)).2))
    refine br_f (nI_ge hi (by omega)) ⟨i2, ?_⟩
    rw [e2]
    refine ry_st _ hb ⟨i2, pk_le b 2 (fun k => s48 0 (by omega)) (fun k => ⟨i2, ?_⟩)⟩
    rw [show (2 : Int32) = nI 2 from rfl, pk_sub (by omega)]
    exact s48 (b - 2) rfl
/-- the bounds, by the things -/
theorem rq_FT (I : (rq_I ln fm tt le li rk we op mk wd wn pc ph pa pe pt se ls mo tp ac sz dw st ty ed fr sp go tk en ch ps pg cf ct la gr cr ne nl oe ol fl tl tn N)) {f c x : Nat} (hc : c < 32) (h2 : st c = 2) (hf : (f = 0 ∧ pg c = 0) ∨ (0 < f ∧ 0 < pg c ∧ rd_q (pg c) = f - 1)) : (rq_Ld le ty sz ed fr sp ps (pg c) c (rq_F x) ∧ rq_En le ed fr go f c (rq_F x)) ↔ ((rq_sE le ed fr go pg) c x ∧ (rq_sL le ed fr sp ps pg (fun x => sz (ty x))) c x) := by
  have A := rI_c I.1 c
  have B := rI_e I.1 (ed c)
  have C := rI_e I.1 (f - 1)
  have F := rI_fre I hc h2
  have en : rq_En le ed fr go f c (rq_F x) ↔ (rq_sE le ed fr go pg) c x := by
    have e1 : rq_F x (ri_z ((le (ed c) : Int) - fr c)) 0 ↔ rd_ok (le (ed c) - fr c) 0 x := by
      rw [show ((le (ed c) : Int) - fr c) = ((le (ed c) - fr c : Nat) : Int) by omega]
      exact rq_FN (b := 0) (by omega) (by omega)
    have e2 : rq_F x (ri_z ((le (ed c) : Int) - fr c + le (f - 1))) 0 ↔ rd_ok (le (ed c) + le (f - 1) - fr c) 0 x := by
      rw [show ((le (ed c) : Int) - fr c + le (f - 1)) = ((le (ed c) + le (f - 1) - fr c : Nat) : Int) by omega]
      exact rq_FN (b := 0) (by omega) (by omega)
    rcases hf with ⟨z1, z2⟩ | ⟨z1, z2, z3⟩
    · exact ⟨fun w => ⟨fun _ y => e1.mp (w.1 z1 y), fun y => by omega⟩, fun w => ⟨fun _ y => e1.mpr (w.1 z2 y), fun y => by omega⟩⟩
    · constructor
      · intro w
        refine ⟨fun y => by omega, fun _ y => ?_⟩
        rw [z3] at y ⊢
        exact e2.mp (w.2 z1 y)
      · intro w
        refine ⟨fun y => by omega, fun _ y => ?_⟩
        have := w.2 z2 (by rw [z3]; exact y)
        rw [z3] at this
        exact e2.mpr this
  have ld : rq_Ld le ty sz ed fr sp ps (pg c) c (rq_F x) ↔ (rq_sL le ed fr sp ps pg (fun x => sz (ty x))) c x := by
    rcases Nat.eq_zero_or_pos (rq_le fr ps (pg c) c) with z | z
    · exact ⟨fun _ => rq_sLn z, fun _ a ha => by omega⟩
    · obtain ⟨a, ha⟩ : ∃ a, rq_le fr ps (pg c) c = a + 1 := ⟨rq_le fr ps (pg c) c - 1, by omega⟩
      obtain ⟨a1, a2, a3⟩ := rq_gL I hc h2 ha
      have D := rI_c I.1 a
      have one : ∀ b, rq_le fr ps (pg c) c = b + 1 → b = a := fun b hb => by omega
      rcases Nat.decEq (ed a) (ed c) with q | q
      · obtain ⟨e1, e2⟩ := a3 q
        have e3 : rq_F x (ri_z ((fr a : Int) - sz (ty a) - 1 - fr c + le (ed c))) (nI (sp a)) ↔ (rq_sL le ed fr sp ps pg (fun x => sz (ty x))) c x := by
          rw [e1]
          exact (rq_FN (by omega) (by omega)).trans (e2 x)
        constructor
        · intro w; exact e3.mp ((w a ha).2 q)
        · intro w b hb
          rw [one b hb]
          exact ⟨fun y => absurd y q, fun _ => e3.mpr w⟩
      · obtain ⟨e1, e2⟩ := a2 q
        have e3 : rq_F x (ri_z ((fr a : Int) - sz (ty a) - 1 - fr c)) (nI (sp a)) ↔ (rq_sL le ed fr sp ps pg (fun x => sz (ty x))) c x := by
          rw [e1]
          exact (rq_FN (by omega) (by omega)).trans (e2 x)
        constructor
        · intro w; exact e3.mp ((w a ha).1 q)
        · intro w b hb
          rw [one b hb]
          exact ⟨fun _ => e3.mpr w, fun y => absurd q y⟩
  rw [en, ld]
  exact ⟨fun w => ⟨w.2, w.1⟩, fun w => ⟨w.2, w.1⟩⟩
theorem ry_c157 (post : SY → Prop) {c u : Nat} (I : (rq_L ln fm tt le li rk we op mk wd wn pc ph pa pe pt se ls mo tp ac sz dw st ty ed fr sp go tk en ch ps pg cf ct la gr cr ne nl oe ol fl tl tn N)) (hc : c < 32) (hu : u ≤ 12) (h : post (nI kn, nI tn, th, rn_T ln, rn_A op, rn_A fm, rn_A tt, rn_A le, rn_A ln, rn_A li, rn_A rk, rn_A we, rn_A ca, rn_A mk, rn_A fa, rn_A tp, rn_A ac, rn_A sz, rn_A dw, rn_A st, rn_A ty, rn_A ed, rn_A la, rn_A fr, rn_A sp, rn_A go, rn_A (ru_p nz c (rq_nz (nz c))), rn_A tk, rn_C ch, rn_A en, rn_A (ru_p nw c (rq_dd (dw (ty c)) (rq_nz (nz c)) (sp c) u)), rn_A gr, rn_A cr, rn_A ne, rn_A nl, rn_A oe, rn_A ol, rn_A fl, rn_A pc, rn_A ph, rn_A pa, rn_A se, rn_A ls, rn_A mo, rn_A tl, gp, fs)) : wY_choose_157 post (nI c) (nI (ty c)) (nI u) (nI kn) (nI tn) th (rn_T ln) (rn_A op) (rn_A fm) (rn_A tt) (rn_A le) (rn_A ln) (rn_A li) (rn_A rk) (rn_A we) (rn_A ca) (rn_A mk) (rn_A fa) (rn_A tp) (rn_A ac) (rn_A sz) (rn_A dw) (rn_A st) (rn_A ty) (rn_A ed) (rn_A la) (rn_A fr) (rn_A sp) (rn_A go) (rn_A nz) (rn_A tk) (rn_C ch) (rn_A en) (rn_A nw) (rn_A gr) (rn_A cr) (rn_A ne) (rn_A nl) (rn_A oe) (rn_A ol) (rn_A fl) (rn_A pc) (rn_A ph) (rn_A pa) (rn_A se) (rn_A ls) (rn_A mo) (rn_A tl) gp fs := by
  have A := rI_c I c
  unfold rq_dd at h
  refine ⟨pk_in c 32 hc, pk_in c 32 hc, nm_r (rn_nz (by omega)) ?_⟩
  refine pk_le u 0 (fun k2 => ⟨pk_in c 32 hc, nm_r (rn_uA (by omega)) ?_⟩) (fun k2 => ⟨pk_in c 32 hc, ?_⟩)
  · rw [if_neg (fun w => by have := w.2.1; omega)] at h; exact h
  · have e1 : nI u - 1 = ri_z ((u : Int) - 1) := by rw [ri_n, show (1 : Int32) = ri_z 1 from ri_n 1, ri_sub]
    have e2 : rn_A sp (nI c).toNatClampNeg - 2 = ri_z ((sp c : Int) - 2) := by rw [rn_rA (by omega), ri_n, show (2 : Int32) = ri_z 2 from ri_n 2, ri_sub]
    refine ek_f (ri_t e1 e2 (by omega) (by omega)) (fun k3 => ⟨pk_in c 32 hc, nm_r (rn_uA (by omega)) ?_⟩) (fun k3 => ⟨pk_in c 32 hc, by decide, vp_in_nI (by omega) (by omega), ?_⟩)
    · rw [if_neg (fun w => by have := w.2.2; omega)] at h; exact h
    · rw [rn_rA (f := dw) (by omega), rn_rA (f := ru_p nz c (rq_nz (nz c))) (by omega), ru_s]
      refine br_c (fun k => ⟨pk_in c 32 hc, nm_r (rn_uA (by omega)) ?_⟩) (fun k => nm_r (e' := nI (u - 1)) ?_ ⟨pk_in c 32 hc, nm_r (rn_uA (by omega)) ?_⟩)
      · rw [if_neg (fun w => w.1 k)] at h; exact h
      · obtain ⟨v, rfl⟩ : ∃ v, u = v + 1 := ⟨u - 1, by omega⟩
        exact pk_m1 v
      · rw [if_pos ⟨k, k2, by omega⟩] at h; exact h
theorem ry_c137 (post : SY → Prop) {c t s v : Nat} {P : Nat → Prop} (I : (rq_L ln fm tt le li rk we op mk wd wn pc ph pa pe pt se ls mo tp ac sz dw st ty ed fr sp go tk en ch ps pg cf ct la gr cr ne nl oe ol fl tl tn N)) (hc : c < 32) (ht : t ≤ 2) (hs : ∀ k, k < t → rq_Sh (gp k) (fs k)) (hP : ∀ x, (∀ k, k < t → rq_F x (gp k) (fs k)) ↔ P x) (hs12 : s ≤ 12) (hu : rd_gr P s v) (h : post (nI kn, nI tn, nI t, rn_T ln, rn_A op, rn_A fm, rn_A tt, rn_A le, rn_A ln, rn_A li, rn_A rk, rn_A we, rn_A ca, rn_A mk, rn_A fa, rn_A tp, rn_A ac, rn_A sz, rn_A dw, rn_A st, rn_A ty, rn_A ed, rn_A la, rn_A fr, rn_A sp, rn_A go, rn_A (ru_p nz c (rq_nz (nz c))), rn_A tk, rn_C ch, rn_A en, rn_A (ru_p nw c (rq_dd (dw (ty c)) (rq_nz (nz c)) (sp c) v)), rn_A gr, rn_A cr, rn_A ne, rn_A nl, rn_A oe, rn_A ol, rn_A fl, rn_A pc, rn_A ph, rn_A pa, rn_A se, rn_A ls, rn_A mo, rn_A tl, gp, fs)) : ∀ x n, x < n → x ≤ s → v ≤ x → wY_choose_137 post (nI c) (nI (ty c)) (nI kn) (nI tn) (nI t) (rn_T ln) (rn_A op) (rn_A fm) (rn_A tt) (rn_A le) (rn_A ln) (rn_A li) (rn_A rk) (rn_A we) (rn_A ca) (rn_A mk) (rn_A fa) (rn_A tp) (rn_A ac) (rn_A sz) (rn_A dw) (rn_A st) (rn_A ty) (rn_A ed) (rn_A la) (rn_A fr) (rn_A sp) (rn_A go) (rn_A nz) (rn_A tk) (rn_C ch) (rn_A en) (rn_A nw) (rn_A gr) (rn_A cr) (rn_A ne) (rn_A nl) (rn_A oe) (rn_A ol) (rn_A fl) (rn_A pc) (rn_A ph) (rn_A pa) (rn_A se) (rn_A ls) (rn_A mo) (rn_A tl) gp fs n (nI x) := by
  intro x
  induction x with
  | zero =>
    intro n hn _ hux
    obtain ⟨n', rfl⟩ : ∃ n', n = n' + 1 := ⟨n - 1, by omega⟩
    have : v = 0 := by omega
    subst this
    exact br_t (by decide) (ry_c157 post I hc (by omega) h)
  | succ x ih =>
    intro n hn hxs hux
    obtain ⟨n', rfl⟩ : ∃ n', n = n' + 1 := ⟨n - 1, by omega⟩
    refine br_f (nI_nle (by omega) (by omega)) (ry_fit _ rfl ht (by omega) hs ?_)
    rw [rb_e (hP (x + 1))]
    refine rb_b (fun k => nm_r (pk_m1 x) (ih n' (by omega) (by omega) ?_)) (fun k => ?_)
    · rcases Nat.decEq v (x + 1) with q | q
      · omega
      · subst q
        rcases hu.2.1 with y | y
        · omega
        · exact absurd y k
    · have e : v = x + 1 := by
        rcases Nat.decEq v (x + 1) with q | q
        · exact absurd k (hu.2.2 (x + 1) (by omega) hxs)
        · exact q
      rw [← e]
      exact ry_c157 post I hc (by omega) h
theorem ry_ch (post : SY → Prop) {c v : Nat} {x : Int32} (hx : x = nI c) (I : (rq_I ln fm tt le li rk we op mk wd wn pc ph pa pe pt se ls mo tp ac sz dw st ty ed fr sp go tk en ch ps pg cf ct la gr cr ne nl oe ol fl tl tn N)) (hc : c < 32) (h2 : st c = 2) (hv : rd_gr (fun y => (rq_sE le ed fr go pg) c y ∧ (rq_sL le ed fr sp ps pg (fun x => sz (ty x))) c y) ((rq_wish li tp ac ty ed sp) c) v) (H : ∀ gp fs th, post (nI kn, nI tn, th, rn_T ln, rn_A op, rn_A fm, rn_A tt, rn_A le, rn_A ln, rn_A li, rn_A rk, rn_A we, rn_A ca, rn_A mk, rn_A fa, rn_A tp, rn_A ac, rn_A sz, rn_A dw, rn_A st, rn_A ty, rn_A ed, rn_A la, rn_A fr, rn_A sp, rn_A go, rn_A (ru_p nz c (rq_nz (nz c))), rn_A tk, rn_C ch, rn_A en, rn_A (ru_p nw c (rq_dd (dw (ty c)) (rq_nz (nz c)) (sp c) v)), rn_A gr, rn_A cr, rn_A ne, rn_A nl, rn_A oe, rn_A ol, rn_A fl, rn_A pc, rn_A ph, rn_A pa, rn_A se, rn_A ls, rn_A mo, rn_A tl, gp, fs)) : wpY_choose post (nI kn, nI tn, th, rn_T ln, rn_A op, rn_A fm, rn_A tt, rn_A le, rn_A ln, rn_A li, rn_A rk, rn_A we, rn_A ca, rn_A mk, rn_A fa, rn_A tp, rn_A ac, rn_A sz, rn_A dw, rn_A st, rn_A ty, rn_A ed, rn_A la, rn_A fr, rn_A sp, rn_A go, rn_A nz, rn_A tk, rn_C ch, rn_A en, rn_A nw, rn_A gr, rn_A cr, rn_A ne, rn_A nl, rn_A oe, rn_A ol, rn_A fl, rn_A pc, rn_A ph, rn_A pa, rn_A se, rn_A ls, rn_A mo, rn_A tl, gp, fs) x := by
  subst hx
  have A := rI_c I.1 c
  have B := rI_e I.1 (ed c)
  have T := rI_y I.1 c
  have G := rI_gd I.1 c hc
  have w12 : (rq_wish li tp ac ty ed sp) c ≤ 12 := rq_wishU T.2.1 A.2.2.2.2.2.1
  have s35 : ∀ f, (f = 0 ∧ pg c = 0) ∨ (0 < f ∧ f ≤ 16 ∧ 0 < pg c ∧ f - 1 = ne c) → wY_choose_35 post (nI c) (nI (ed c)) (nI (ty c)) (rn_y f) (nI c) (nI kn) (nI tn) th (rn_T ln) (rn_A op) (rn_A fm) (rn_A tt) (rn_A le) (rn_A ln) (rn_A li) (rn_A rk) (rn_A we) (rn_A ca) (rn_A mk) (rn_A fa) (rn_A tp) (rn_A ac) (rn_A sz) (rn_A dw) (rn_A st) (rn_A ty) (rn_A ed) (rn_A la) (rn_A fr) (rn_A sp) (rn_A go) (rn_A nz) (rn_A tk) (rn_C ch) (rn_A en) (rn_A nw) (rn_A gr) (rn_A cr) (rn_A ne) (rn_A nl) (rn_A oe) (rn_A ol) (rn_A fl) (rn_A pc) (rn_A ph) (rn_A pa) (rn_A se) (rn_A ls) (rn_A mo) (rn_A tl) gp fs := by
    intro f hf
    have es : (if f = 0 then 0 else 2 * (f - 1) + nl c + 1) = pg c := by
      rcases hf with ⟨z1, z2⟩ | ⟨z1, z2, z3, z4⟩
      · rw [if_pos z1]; omega
      · rw [if_neg (by omega)]; omega
    have hf2 : (f = 0 ∧ pg c = 0) ∨ (0 < f ∧ 0 < pg c ∧ rd_q (pg c) = f - 1) := by
      rcases hf with z | ⟨z1, z2, z3, z4⟩
      · exact Or.inl z
      · right
        refine ⟨z1, z3, ?_⟩
        have e : pg c = 2 * ne c + nl c + 1 := by omega
        rw [e, rd_qE (by omega)]; omega
    unfold wY_choose_35
    refine ⟨pk_in c 32 hc, ry_fd _ (f := f) (l := nl c) rfl rfl (rn_rA (by omega)) I.1 hc h2 (by omega) (fun z => by omega) (fun z => ?_) (fun gp fs t ht hTh => ⟨vp_in_nI (by omega) (by omega), vp_in_nI (by omega) (by omega), ?_⟩)⟩
    · rcases hf2 with y | y
      · omega
      · rw [← y.2.2]; exact rI_pq I hc y.2.1
    · rw [es] at hTh
      have hS := (hTh rq_Sh).mpr ⟨rq_LdS I.1 hc h2 (rI_pg I.1 c hc) (rI_pq I hc), rq_EnS I.1⟩
      have loop : ∀ z, z = (rq_wish li tp ac ty ed sp) c → ∃ n, wY_choose_137 post (nI c) (nI (ty c)) (nI kn) (nI tn) (nI t) (rn_T ln) (rn_A op) (rn_A fm) (rn_A tt) (rn_A le) (rn_A ln) (rn_A li) (rn_A rk) (rn_A we) (rn_A ca) (rn_A mk) (rn_A fa) (rn_A tp) (rn_A ac) (rn_A sz) (rn_A dw) (rn_A st) (rn_A ty) (rn_A ed) (rn_A la) (rn_A fr) (rn_A sp) (rn_A go) (rn_A nz) (rn_A tk) (rn_C ch) (rn_A en) (rn_A nw) (rn_A gr) (rn_A cr) (rn_A ne) (rn_A nl) (rn_A oe) (rn_A ol) (rn_A fl) (rn_A pc) (rn_A ph) (rn_A pa) (rn_A se) (rn_A ls) (rn_A mo) (rn_A tl) gp fs n (nI z) := by
        intro z hz
        rw [hz]
        exact ⟨(rq_wish li tp ac ty ed sp) c + 1, ry_c137 post I.1 hc ht hS (fun x => (hTh (rq_F x)).trans (rq_FT I hc h2 hf2)) w12 hv (H gp fs (nI t)) ((rq_wish li tp ac ty ed sp) c) _ (by omega) (by omega) hv.1⟩
      have s99 : ∀ z : Nat, z = max (min (tp (ty c)) (li (ed c))) (sp c - 2) → wY_choose_99 post (nI c) (nI (ty c)) (nI z) (nI kn) (nI tn) (nI t) (rn_T ln) (rn_A op) (rn_A fm) (rn_A tt) (rn_A le) (rn_A ln) (rn_A li) (rn_A rk) (rn_A we) (rn_A ca) (rn_A mk) (rn_A fa) (rn_A tp) (rn_A ac) (rn_A sz) (rn_A dw) (rn_A st) (rn_A ty) (rn_A ed) (rn_A la) (rn_A fr) (rn_A sp) (rn_A go) (rn_A nz) (rn_A tk) (rn_C ch) (rn_A en) (rn_A nw) (rn_A gr) (rn_A cr) (rn_A ne) (rn_A nl) (rn_A oe) (rn_A ol) (rn_A fl) (rn_A pc) (rn_A ph) (rn_A pa) (rn_A se) (rn_A ls) (rn_A mo) (rn_A tl) gp fs := by
        intro z hz
        refine ⟨pk_in c 32 hc, vp_in_nI (by omega) (by omega), ?_⟩
        rw [rn_rA (by omega), rn_rA (by omega), nI_add]
        refine pk_le z (sp c + ac (ty c)) (fun k => loop z (by unfold rq_wish; omega)) (fun k => ⟨pk_in c 32 hc, vp_in_nI (by omega) (by omega), nm_e (loop _ (by unfold rq_wish; omega))⟩)
      have s74 : ∀ z : Nat, z = min (tp (ty c)) (li (ed c)) → wY_choose_74 post (nI c) (nI (ty c)) (nI z) (nI kn) (nI tn) (nI t) (rn_T ln) (rn_A op) (rn_A fm) (rn_A tt) (rn_A le) (rn_A ln) (rn_A li) (rn_A rk) (rn_A we) (rn_A ca) (rn_A mk) (rn_A fa) (rn_A tp) (rn_A ac) (rn_A sz) (rn_A dw) (rn_A st) (rn_A ty) (rn_A ed) (rn_A la) (rn_A fr) (rn_A sp) (rn_A go) (rn_A nz) (rn_A tk) (rn_C ch) (rn_A en) (rn_A nw) (rn_A gr) (rn_A cr) (rn_A ne) (rn_A nl) (rn_A oe) (rn_A ol) (rn_A fl) (rn_A pc) (rn_A ph) (rn_A pa) (rn_A se) (rn_A ls) (rn_A mo) (rn_A tl) gp fs := by
        intro z hz
        have e1 : rn_A sp (nI c).toNatClampNeg - 2 = ri_z ((sp c : Int) - 2) := by rw [rn_rA (by omega), ri_n, show (2 : Int32) = ri_z 2 from ri_n 2, ri_sub]
        refine ⟨pk_in c 32 hc, ek_f (ri_l e1 (ri_n z) (by omega) (by omega)) (fun k => s99 z (by omega)) (fun k => ⟨pk_in c 32 hc, nm_r (e' := nI (sp c - 2)) (by rw [rn_rA (by omega), show (2 : Int32) = nI 2 from rfl, pk_sub (by omega)]) (s99 (sp c - 2) (by omega))⟩)⟩
      rw [rn_rA (i := ed c) (by omega), rn_rA (i := ty c) (by omega)]
      exact pk_le (li (ed c)) (tp (ty c)) (fun k => ⟨vp_in_nI (by omega) (by omega), s74 _ (by omega)⟩) (fun k => ⟨vp_in_nI (by omega) (by omega), s74 _ (by omega)⟩)
  refine ⟨pk_in c 32 hc, nm_r (rn_rA (by omega)) ⟨pk_in c 32 hc, nm_r (rn_rA (by omega)) ⟨pk_in c 32 hc, ?_⟩⟩⟩
  refine ek_f (rn_e (rn_rA (by omega)) (b := 0) rfl (by omega) (by omega)) (fun k => s35 0 (Or.inl ⟨rfl, by omega⟩)) (fun k => ⟨pk_in c 32 hc, ?_⟩)
  rw [rn_rA (by omega)]
  exact s35 (ne c + 1) (Or.inr ⟨by omega, by omega, by omega, by omega⟩)
/-- the new speed of a car -/
def rq_ns (le li tp ac ty sz ed fr sp go ps pg : Nat → Nat) (c x : Nat) : Prop := ∃ v, rd_gr (fun y => (rq_sE le ed fr go pg) c y ∧ (rq_sL le ed fr sp ps pg (fun x => sz (ty x))) c y) ((rq_wish li tp ac ty ed sp) c) v ∧ (x = v ∨ (x + 1 = v ∧ sp c ≤ x + 2))
theorem rl_ch (I : (rq_I ln fm tt le li rk we op mk wd wn pc ph pa pe pt se ls mo tp ac sz dw st ty ed fr sp go tk en ch ps pg cf ct la gr cr ne nl oe ol fl tl tn N)) : ∀ d i, i + d = 32 → ∀ nz nw : Nat → Nat, ∃ nz' nw' : Nat → Nat, (∀ c, i ≤ c → c < 32 → st c = 2 → rq_ns le li tp ac ty sz ed fr sp go ps pg c (nw' c)) ∧ (∀ c, c < i → nw' c = nw c) ∧
    (∀ post, (∃ n44, wX_moveCars_44 post n44 0 (nI tn) (rn_A ln) (rn_A fm) (rn_A tt) (rn_A le) (rn_A li) (rn_A rk) (rn_A we) (rn_A op) (rn_A ca) (rn_A mk) (rn_B wd) (rn_B wn) (rn_A pc) (rn_A ph) (rn_A pa) (rn_A pe) (rn_A pt) (rn_A tp) (rn_A ac) (rn_A sz) (rn_A dw) (rn_A st) (rn_A ty) (rn_A ed) (rn_B ps) (rn_A fr) (rn_A sp) (rn_A go) (rn_A nz') (rn_B pg) (rn_B cf) (rn_B ct) (rn_A tk) (rn_A en) (rn_B ch) (rn_A nw') (rn_A tl)) → wX_moveCars_2 post (d + 1) (nI i) (nI tn) (rn_A ln) (rn_A fm) (rn_A tt) (rn_A le) (rn_A li) (rn_A rk) (rn_A we) (rn_A op) (rn_A ca) (rn_A mk) (rn_B wd) (rn_B wn) (rn_A pc) (rn_A ph) (rn_A pa) (rn_A pe) (rn_A pt) (rn_A tp) (rn_A ac) (rn_A sz) (rn_A dw) (rn_A st) (rn_A ty) (rn_A ed) (rn_B ps) (rn_A fr) (rn_A sp) (rn_A go) (rn_A nz) (rn_B pg) (rn_B cf) (rn_B ct) (rn_A tk) (rn_A en) (rn_B ch) (rn_A nw) (rn_A tl)) ∧
    (∀ post kn fa gp fs th, (∀ gp fs th, ∃ n126, wY_stepOn_126 post n126 0 (nI kn) (nI tn) th (rn_T ln) (rn_A op) (rn_A fm) (rn_A tt) (rn_A le) (rn_A ln) (rn_A li) (rn_A rk) (rn_A we) (rn_A ca) (rn_A mk) (rn_A fa) (rn_A tp) (rn_A ac) (rn_A sz) (rn_A dw) (rn_A st) (rn_A ty) (rn_A ed) (rn_A la) (rn_A fr) (rn_A sp) (rn_A go) (rn_A nz') (rn_A tk) (rn_C ch) (rn_A en) (rn_A nw') (rn_A gr) (rn_A cr) (rn_A ne) (rn_A nl) (rn_A oe) (rn_A ol) (rn_A fl) (rn_A pc) (rn_A ph) (rn_A pa) (rn_A se) (rn_A ls) (rn_A mo) (rn_A tl) gp fs) → wY_stepOn_97 post (d + 1) (nI i) (nI kn) (nI tn) th (rn_T ln) (rn_A op) (rn_A fm) (rn_A tt) (rn_A le) (rn_A ln) (rn_A li) (rn_A rk) (rn_A we) (rn_A ca) (rn_A mk) (rn_A fa) (rn_A tp) (rn_A ac) (rn_A sz) (rn_A dw) (rn_A st) (rn_A ty) (rn_A ed) (rn_A la) (rn_A fr) (rn_A sp) (rn_A go) (rn_A nz) (rn_A tk) (rn_C ch) (rn_A en) (rn_A nw) (rn_A gr) (rn_A cr) (rn_A ne) (rn_A nl) (rn_A oe) (rn_A ol) (rn_A fl) (rn_A pc) (rn_A ph) (rn_A pa) (rn_A se) (rn_A ls) (rn_A mo) (rn_A tl) gp fs) := by
  intro d
  induction d with
  | zero =>
    intro i hi nz nw
    have e : i = 32 := by omega
    subst e
    exact ⟨nz, nw, fun c a b => by omega, fun c _ => rfl, fun post h => br_t (by decide) h, fun post kn fa gp fs th h => br_t (by decide) (h gp fs th)⟩
  | succ d ih =>
    intro i hi nz nw
    have i32 : i < 32 := by omega
    have A := rI_c I.1 i
    have T := rI_y I.1 i
    rcases Nat.decEq (st i) 2 with q | q
    · obtain ⟨nz', nw', h1, h2, hx, hy⟩ := ih (i + 1) (by omega) nz nw
      refine ⟨nz', nw', fun c a b k => ?_, fun c hc => h2 c (by omega), fun post h => br_f (nI_ge (b := 32) i32 (by decide)) ⟨pk_in i 32 i32, ?_⟩, fun post kn fa gp fs th h => br_f (nI_ge (b := 32) i32 (by decide)) ⟨pk_in i 32 i32, ?_⟩⟩
      · rcases Nat.decEq c i with z | z
        · exact h1 c (by omega) b k
        · subst z; exact absurd k q
      · exact ek_f (rn_e (rn_rA (by omega)) (b := 2) rfl (by omega) (by omega)) (fun k => absurd k q) (fun _ => nm_r (nI_1 i) (hx post h))
      · exact ek_f (rn_e (rn_rA (by omega)) (b := 2) rfl (by omega) (by omega)) (fun k => absurd k q) (fun _ => nm_r (nI_1 i) (hy post kn fa gp fs th h))
    · obtain ⟨v, hv⟩ := rd_grX (fun y => (rq_sE le ed fr go pg) i y ∧ (rq_sL le ed fr sp ps pg (fun x => sz (ty x))) i y) ((rq_wish li tp ac ty ed sp) i)
      have w12 : (rq_wish li tp ac ty ed sp) i ≤ 12 := rq_wishU T.2.1 A.2.2.2.2.2.1
      have v12 := hv.1
      obtain ⟨nz', nw', h1, h2, hx, hy⟩ := ih (i + 1) (by omega) (ru_p nz i (rq_nz (nz i))) (ru_p nw i (rq_dd (dw (ty i)) (rq_nz (nz i)) (sp i) v))
      refine ⟨nz', nw', fun c a b k => ?_, fun c hc => by rw [h2 c (by omega), ru_n (by omega)], fun post h => br_f (nI_ge (b := 32) i32 (by decide)) ⟨pk_in i 32 i32, ?_⟩, fun post kn fa gp fs th h => br_f (nI_ge (b := 32) i32 (by decide)) ⟨pk_in i 32 i32, ?_⟩⟩
      · rcases Nat.decEq c i with z | z
        · exact h1 c (by omega) b k
        · subst z
          rw [h2 c (by omega), ru_s]
          exact ⟨v, hv, rq_ddI _ _ _ _⟩
      · refine ek_f (rn_e (rn_rA (by omega)) (b := 2) rfl (by omega) (by omega)) (fun _ => rx_gs _ rfl I i32 q (fun u hu => ?_)) (fun k => absurd q k)
        rw [rd_grU hu hv]
        exact rx_dd _ rfl rfl I.1 i32 (by omega) ⟨pk_in i 32 i32, nm_r (rn_uA (by omega)) (nm_r (nI_1 i) (hx post h))⟩
      · refine ek_f (rn_e (rn_rA (by omega)) (b := 2) rfl (by omega) (by omega)) (fun _ => ry_ch _ rfl I i32 q hv (fun gp fs th => nm_r (nI_1 i) (hy post kn fa gp fs th h))) (fun k => absurd q k)
end
