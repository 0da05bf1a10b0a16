/-! MOVES: the speeds -/
theorem rd_grX (P : Nat → Prop) : ∀ s, ∃ u, rd_gr P s u
  | 0 => ⟨0, Nat.le_refl _, Or.inl rfl, fun x hx hs => by omega⟩
  | s + 1 => by
    obtain ⟨u, h1, h2, h3⟩ := rd_grX P s
    rcases Classical.em (P (s + 1)) with p | p
    · exact ⟨s + 1, Nat.le_refl _, Or.inr p, fun x hx hs => by omega⟩
    · refine ⟨u, by omega, h2, fun x hx hs => ?_⟩
      rcases Nat.decEq x (s + 1) with q | q
      · exact h3 x hx (by omega)
      · subst q; exact p
theorem rx_h26 (post : Int32 → Prop) {g w s u : Nat} (hg : g < 100000) (hw : w < 64) (hs : s < 64) (hu : rd_gr (rd_ok g w) s u) (h : post (nI u)) : ∀ x n, x < n → x ≤ s → u ≤ x → wX_heldBack_26 post (nI (g + (w - 2))) (nI (g + rd_D w)) n (nI x) := by
  have d2 := rn_D6 w hw
  intro x
  induction x with
  | zero =>
    intro n hn _ hux
    obtain ⟨n', rfl⟩ : ∃ n', n = n' + 1 := ⟨n - 1, by omega⟩
    have : u = 0 := by omega
    subst this
    exact br_t (by decide) h
  | succ x ih =>
    intro n hn hxs hux
    obtain ⟨n', rfl⟩ : ∃ n', n = n' + 1 := ⟨n - 1, by omega⟩
    have d1 := rn_D6 (x + 1) (by omega)
    have low : ¬ rd_ok g w (x + 1) → u ≤ x := by
      intro k
      rcases Nat.decEq u (x + 1) with q | q
      · omega
      · subst q
        rcases hu.2.1 with y | y
        · omega
        · exact absurd y k
    have top : rd_ok g w (x + 1) → u = x + 1 := by
      intro k
      rcases Nat.decEq u (x + 1) with q | q
      · exact absurd k (hu.2.2 (x + 1) (by omega) hxs)
      · exact q
    refine br_f (nI_nle (by omega) (by omega)) (pk_lt (g + (w - 2)) (x + 1) (fun k => nm_r (pk_m1 x) (ih n' (by omega) (by omega) (low (fun y => by have := y.1; omega)))) (fun k => rx_bs _ (by omega) ?_))
    rw [nI_add]
    refine pk_lt (g + rd_D w) (x + 1 + rd_D (x + 1)) (fun k2 => nm_r (pk_m1 x) (ih n' (by omega) (by omega) (low (fun y => by have := y.2; omega)))) (fun k2 => ?_)
    rw [← top ⟨k, k2⟩]
    exact h
theorem rx_hb (post : Int32 → Prop) {g w s u : Nat} {x y z : Int32} (hx : x = nI s) (hy : y = nI g) (hz : z = nI w) (hg : g < 100000) (hw : w < 64) (hs : s < 64) (hu : rd_gr (rd_ok g w) s u) (h : post (nI u)) : wpX_heldBack post x y z := by
  subst hx hy hz
  have d2 := rn_D6 w hw
  have key : wX_heldBack_14 post (nI s) (nI g) (nI w) (nI (g + (w - 2))) := by
    unfold wX_heldBack_14
    exact rx_bs _ hw (nm_r (nI_add _ _) ⟨s + 1, rx_h26 post hg hw hs hu h s (s + 1) (by omega) (by omega) hu.1⟩)
  refine pk_le w 2 (fun k => ?_) (fun k => ?_)
  · have e : g + (w - 2) = g := by omega
    rw [e] at key; exact key
  · rw [nI_add, show (2 : Int32) = nI 2 from rfl, pk_sub (by omega)]
    have e : g + (w - 2) = g + w - 2 := by omega
    rw [e] at key; exact key
/-- what holds of a speed and a thing -/
def rq_F (u : Nat) (g w : Int32) : Prop := (u : Int) ≤ g.toInt + ((w.toNatClampNeg - 2 : Nat) : Int) ∧ (u : Int) + rd_D u ≤ g.toInt + rd_D w.toNatClampNeg
theorem rq_FE {u b : Nat} {a : Int} (ha : -100000 < a ∧ a < 100000) (hb : b < 64) : rq_F u (ri_z a) (nI b) ↔ ((u : Int) ≤ a + ((b - 2 : Nat) : Int) ∧ (u : Int) + rd_D u ≤ a + rd_D b) := by
  unfold rq_F
  rw [ri_toInt (by omega) (by omega), nI_clamp (by omega)]
theorem rq_FN {u b g : Nat} (hg : g < 100000) (hb : b < 64) : rq_F u (ri_z (g : Int)) (nI b) ↔ rd_ok g b u := by
  rw [rq_FE (by omega) hb]
  unfold rd_ok
  omega
section
variable {ln fm tt le li rk we op ca mk wd wn fa pc ph pa pe pt se ls mo tp ac sz dw st ty ed fr sp go nz tk en ch nw ps pg cf ct la gr cr ne nl oe ol fl tl : Nat → Nat} {tn kn N : Nat} {th : Int32} {gp fs : Nat → Int32}
/-- the gap up to the END, a natural number -/
def rq_gE (le ed fr go pg : Nat → Nat) (c : Nat) : Nat := if pg c = 0 then (if go c = ed c then 1000 else le (ed c) - fr c) else (if go c = rd_q (pg c) then 1000 else le (ed c) + le (rd_q (pg c)) - fr c)
theorem rq_gEz (I : (rq_I ln fm tt le li rk we op mk wd wn pc ph pa pe pt se ls mo tp ac sz dw st ty ed fr sp go tk en ch ps pg cf ct la gr cr ne nl oe ol fl tl tn N)) {c : Nat} (hc : c < 32) (h2 : st c = 2) : rq_ge le ed fr go (pg c) c = ((rq_gE le ed fr go pg c : Nat) : Int) ∧ rq_gE le ed fr go pg c < 100000 := by
  have F := rI_fre I hc h2
  have B := rI_e I.1 (ed c)
  have C := rI_e I.1 (rd_q (pg c))
  unfold rq_ge rq_gE
  split
  · split
    · exact ⟨rfl, by omega⟩
    · exact ⟨by omega, by omega⟩
  · split
    · exact ⟨rfl, by omega⟩
    · exact ⟨by omega, by omega⟩
theorem rq_gEs {c x : Nat} (hx : x ≤ 12) : rd_ok (rq_gE le ed fr go pg c) 0 x ↔ (rq_sE le ed fr go pg) c x := by
  have d := rn_D12 x (by omega)
  have far : rd_ok 1000 0 x := by unfold rd_ok; rw [rd_D0]; omega
  unfold rq_gE rq_sE
  by_cases z : pg c = 0
  · rw [if_pos z]
    by_cases w : go c = ed c
    · rw [if_pos w]
      exact ⟨fun _ => ⟨fun _ y => absurd w y, fun y => by omega⟩, fun _ => far⟩
    · rw [if_neg w]
      exact ⟨fun k => ⟨fun _ _ => k, fun y => by omega⟩, fun k => k.1 z w⟩
  · rw [if_neg z]
    by_cases w : go c = rd_q (pg c)
    · rw [if_pos w]
      exact ⟨fun _ => ⟨fun y => absurd y z, fun _ y => absurd w y⟩, fun _ => far⟩
    · rw [if_neg w]
      exact ⟨fun k => ⟨fun y => absurd y z, fun _ _ => k⟩, fun k => k.2 (by omega) w⟩
theorem rI_pq (I : (rq_I ln fm tt le li rk we op mk wd wn pc ph pa pe pt se ls mo tp ac sz dw st ty ed fr sp go tk en ch ps pg cf ct la gr cr ne nl oe ol fl tl tn N)) {c : Nat} (hc : c < 32) : 0 < pg c → rd_q (pg c) ≠ ed c := by
  intro g
  obtain ⟨g1, _⟩ := rq_pgS I.1.2.1 hc g
  have := ((I.2.2.2.2.2.2 c hc).2 g).2.2.2
  rw [(rq_psE I.1.2.1 hc g1).1] at this
  exact this
/-- the gap to the one AHEAD, a natural number -/
theorem rq_gL (I : (rq_I ln fm tt le li rk we op mk wd wn pc ph pa pe pt se ls mo tp ac sz dw st ty ed fr sp go tk en ch ps pg cf ct la gr cr ne nl oe ol fl tl tn N)) {c a : Nat} (hc : c < 32) (h2 : st c = 2) (ha : rq_le fr ps (pg c) c = a + 1) : a < 32 ∧ (ed a = ed c → ((fr a : Int) - sz (ty a) - 1 - fr c = ((fr a - sz (ty a) - 1 - fr c : Nat) : Int)) ∧ ∀ x, rd_ok (fr a - sz (ty a) - 1 - fr c) (sp a) x ↔ (rq_sL le ed fr sp ps pg (fun x => sz (ty x))) c x) ∧ (ed a ≠ ed c → ((fr a : Int) - sz (ty a) - 1 - fr c + le (ed c) = ((fr a + le (ed c) - sz (ty a) - 1 - fr c : Nat) : Int)) ∧ ∀ x, rd_ok (fr a + le (ed c) - sz (ty a) - 1 - fr c) (sp a) x ↔ (rq_sL le ed fr sp ps pg (fun x => sz (ty x))) c x) := by
  obtain ⟨a1, a2, a3⟩ := rI_leC I.1 hc h2 (rI_pg I.1 c hc) (rI_pq I hc) ha
  obtain ⟨q1, q2, q3, q4, q5, q6⟩ := rq_psE I.1.2.1 hc h2
  refine ⟨a1, fun e => ?_, fun e => ?_⟩
  · rcases a3 with ⟨z1, z2⟩ | ⟨z1, _⟩
    · rcases rd_nrS (ps := ps) (fr := fr) (s := ps c) (p := fr c) 32 with ⟨k1, _⟩ | ⟨b, k1, k2, k3, k4, _⟩
      · omega
      · have eb : b = a := by omega
        subst eb
        have f := ((I.2.1 c b hc k2 (by intro y; subst y; omega) q2 k3).2 k4).1
        have f' : fr c + sz (ty b) + 1 ≤ fr b := f
        refine ⟨by omega, fun x => ⟨fun w => ⟨fun d hd => ?_, fun y => by omega⟩, fun w => w.1 b z2⟩⟩
        have : d = b := by omega
        subst this
        exact w
    · exact absurd e z1
  · rcases a3 with ⟨z1, _⟩ | ⟨z1, z2, z3, z4⟩
    · exact absurd z1 e
    · rcases rd_nrS (ps := ps) (fr := fr) (s := pg c) (p := 0) 32 with ⟨k1, _⟩ | ⟨b, k1, k2, k3, k4, _⟩
      · omega
      · have eb : b = a := by omega
        subst eb
        have f := (I.2.2.1 c b hc k2 z3 k3).1
        rw [q1] at f
        have f' : fr c + sz (ty b) + 1 ≤ fr b + le (ed c) := f
        refine ⟨by omega, fun x => ⟨fun w => ⟨fun d hd => by omega, fun _ _ d hd => ?_⟩, fun w => w.2 z2 z3 b z4⟩⟩
        have : d = b := by omega
        subst this
        exact w
theorem rq_sLn {c x : Nat} (h : rq_le fr ps (pg c) c = 0) : (rq_sL le ed fr sp ps pg (fun x => sz (ty x))) c x := by
  unfold rq_le at h
  refine ⟨fun a ha => ?_, fun n0 g0 b hb => ?_⟩
  · rw [if_neg (by omega)] at h; omega
  · rw [if_pos n0, if_neg (by omega)] at h; omega
theorem rx_wi (post : Int32 → Prop) {c : Nat} {x : Int32} (hx : x = nI c) (I : (rq_L ln fm tt le li rk we op mk wd wn pc ph pa pe pt se ls mo tp ac sz dw st ty ed fr sp go tk en ch ps pg cf ct la gr cr ne nl oe ol fl tl tn N)) (hc : c < 32) (h : post (nI ((rq_wish li tp ac ty ed sp) c))) : wpX_wishOf post (nI tn, rn_A ln, rn_A fm, rn_A tt, rn_A le, rn_A li, rn_A rk, rn_A we, rn_A op, rn_A ca, rn_A mk, rn_B wd, rn_B wn, rn_A pc, rn_A ph, rn_A pa, rn_A pe, rn_A pt, rn_A tp, rn_A ac, rn_A sz, rn_A dw, rn_A st, rn_A ty, rn_A ed, rn_B ps, rn_A fr, rn_A sp, rn_A go, rn_A nz, rn_B pg, rn_B cf, rn_B ct, rn_A tk, rn_A en, rn_B ch, rn_A nw, rn_A tl) x := by
  subst hx
  have A := rI_c I c
  have B := rI_e I (ed c)
  have T := rI_y I c
  have s67 : ∀ z : Nat, z = max (min (tp (ty c)) (li (ed c))) (sp c - 2) → wX_wishOf_67 post (nI c) (nI (ty c)) (nI z) (nI tn) (rn_A ln) (rn_A fm) (rn_A tt) (rn_A le) (rn_A li) (rn_A rk) (rn_A we) (rn_A op) (rn_A ca) (rn_A mk) (rn_B wd) (rn_B wn) (rn_A pc) (rn_A ph) (rn_A pa) (rn_A pe) (rn_A pt) (rn_A tp) (rn_A ac) (rn_A sz) (rn_A dw) (rn_A st) (rn_A ty) (rn_A ed) (rn_B ps) (rn_A fr) (rn_A sp) (rn_A go) (rn_A nz) (rn_B pg) (rn_B cf) (rn_B ct) (rn_A tk) (rn_A en) (rn_B ch) (rn_A nw) (rn_A tl) := by
    intro z hz
    refine ⟨pk_in c 32 hc, vp_in_nI (by omega) (by omega), ?_⟩
    rw [rn_rA (by omega), rn_rA (by omega), nI_add]
    refine pk_le (sp c + ac (ty c)) z (fun k => ⟨pk_in c 32 hc, vp_in_nI (by omega) (by omega), ?_⟩) (fun k => ?_)
    · have e : (rq_wish li tp ac ty ed sp) c = sp c + ac (ty c) := by unfold rq_wish; omega
      rw [e] at h; exact h
    · have e : (rq_wish li tp ac ty ed sp) c = z := by unfold rq_wish; omega
      rw [e] at h; exact h
  have s39 : ∀ z : Nat, z = min (tp (ty c)) (li (ed c)) → wX_wishOf_39 post (nI c) (nI (ty c)) (nI z) (nI tn) (rn_A ln) (rn_A fm) (rn_A tt) (rn_A le) (rn_A li) (rn_A rk) (rn_A we) (rn_A op) (rn_A ca) (rn_A mk) (rn_B wd) (rn_B wn) (rn_A pc) (rn_A ph) (rn_A pa) (rn_A pe) (rn_A pt) (rn_A tp) (rn_A ac) (rn_A sz) (rn_A dw) (rn_A st) (rn_A ty) (rn_A ed) (rn_B ps) (rn_A fr) (rn_A sp) (rn_A go) (rn_A nz) (rn_B pg) (rn_B cf) (rn_B ct) (rn_A tk) (rn_A en) (rn_B ch) (rn_A nw) (rn_A tl) := by
    intro z hz
    refine ⟨pk_in c 32 hc, ?_⟩
    have e1 : rn_A sp (nI c).toNatClampNeg - 2 = ri_z ((sp c : Int) - 2) := by rw [rn_rA (by omega), ri_n, show (2 : Int32) = ri_z 2 from ri_n 2, ri_sub]
    refine ek_f (ri_l e1 (ri_n z) (by omega) (by omega)) (fun k => s67 z (by omega)) (fun k => ⟨pk_in c 32 hc, ?_⟩)
    have e2 : rn_A sp (nI c).toNatClampNeg - 2 = nI (sp c - 2) := by rw [rn_rA (by omega), show (2 : Int32) = nI 2 from rfl, pk_sub (by omega)]
    rw [e2]
    exact s67 (sp c - 2) (by omega)
  refine ⟨pk_in c 32 hc, nm_r (rn_rA (by omega)) ⟨pk_in c 32 hc, rn_iA (by omega) A.2.2.1 (by omega), nm_r (rn_AA (by omega) (by omega)) ⟨vp_in_nI (by omega) (by omega), ?_⟩⟩⟩
  rw [rn_rA (i := ty c) (by omega)]
  exact pk_le (li (ed c)) (tp (ty c)) (fun k => s39 _ (by omega)) (fun k => ⟨vp_in_nI (by omega) (by omega), s39 _ (by omega)⟩)
theorem rx_gs (post : Int32 → Prop) {c : Nat} {x : Int32} (hx : x = nI c) (I : (rq_I ln fm tt le li rk we op mk wd wn pc ph pa pe pt se ls mo tp ac sz dw st ty ed fr sp go tk en ch ps pg cf ct la gr cr ne nl oe ol fl tl tn N)) (hc : c < 32) (h2 : st c = 2) (H : ∀ u, rd_gr (fun y => (rq_sE le ed fr go pg) c y ∧ (rq_sL le ed fr sp ps pg (fun x => sz (ty x))) c y) ((rq_wish li tp ac ty ed sp) c) u → post (nI u)) : wpX_greatestSpeed post (nI tn, rn_A ln, rn_A fm, rn_A tt, rn_A le, rn_A li, rn_A rk, rn_A we, rn_A op, rn_A ca, rn_A mk, rn_B wd, rn_B wn, rn_A pc, rn_A ph, rn_A pa, rn_A pe, rn_A pt, rn_A tp, rn_A ac, rn_A sz, rn_A dw, rn_A st, rn_A ty, rn_A ed, rn_B ps, rn_A fr, rn_A sp, rn_A go, rn_A nz, rn_B pg, rn_B cf, rn_B ct, rn_A tk, rn_A en, rn_B ch, rn_A nw, rn_A tl) x := by
  subst hx
  have A := rI_c I.1 c
  have T := rI_y I.1 c
  have P := rI_pg I.1 c hc
  have w12 : (rq_wish li tp ac ty ed sp) c ≤ 12 := rq_wishU T.2.1 A.2.2.2.2.2.1
  obtain ⟨g1, g2⟩ := rq_gEz I hc h2
  obtain ⟨u1, hu1⟩ := rd_grX (rd_ok (rq_gE le ed fr go pg c) 0) ((rq_wish li tp ac ty ed sp) c)
  have hE : rd_gr (fun y => (rq_sE le ed fr go pg) c y) ((rq_wish li tp ac ty ed sp) c) u1 := rd_grE (fun x _ hx => rq_gEs (by omega)) hu1
  have L := rI_leB I.1 (s := pg c) hc
  have dn : ∀ x y, x ≤ y → 0 < x → (rq_sE le ed fr go pg) c y → (rq_sE le ed fr go pg) c x := fun x y a b k => ⟨fun m n => rd_okD _ _ a b (k.1 m n), fun m n => rd_okD _ _ a b (k.2 m n)⟩
  refine ⟨pk_in c 32 hc, rx_ge _ rfl (rn_rB (by omega)) I.1 hc P ?_⟩
  rw [g1, ← ri_n]
  refine rx_wi _ rfl I.1 hc (rx_hb _ rfl rfl (w := 0) rfl g2 (by omega) (by omega) hu1 ⟨pk_in c 32 hc, rx_le _ rfl (rn_rB (by omega)) I.1 hc h2 P ?_⟩)
  have u12 := hu1.1
  refine ek_f (rn_c2 (by omega)) (fun k => H u1 (rd_grE (fun x _ _ => ⟨fun w => ⟨w, rq_sLn k⟩, fun w => w.1⟩) hE)) (fun k => ?_)
  obtain ⟨a, ha⟩ : ∃ a, rq_le fr ps (pg c) c = a + 1 := ⟨rq_le fr ps (pg c) c - 1, by omega⟩
  obtain ⟨a1, a2, a3⟩ := rq_gL I hc h2 ha
  have D := rI_c I.1 a
  have B := rI_e I.1 (ed c)
  rw [ha]
  have r1 : rn_A sp (rn_c (a + 1)).toNatClampNeg = nI (sp a) := rn_rA (by omega)
  rcases Nat.decEq (ed a) (ed c) with q | q
  · obtain ⟨e1, e2⟩ := a3 q
    refine rx_gq _ rfl rfl I.1 hc a1 q ⟨pk_in a 32 a1, ?_⟩
    rw [r1, e1, ← ri_n]
    obtain ⟨u2, hu2⟩ := rd_grX (rd_ok (fr a + le (ed c) - sz (ty a) - 1 - fr c) (sp a)) u1
    exact rx_hb _ rfl rfl rfl (by omega) (by omega) (by omega) hu2 (H u2 (rd_gr2 dn hE (rd_grE (fun x _ _ => e2 x) hu2)))
  · obtain ⟨e1, e2⟩ := a2 q
    refine rx_gp _ rfl rfl I.1 hc a1 q ⟨pk_in a 32 a1, ?_⟩
    rw [r1, e1, ← ri_n]
    obtain ⟨u2, hu2⟩ := rd_grX (rd_ok (fr a - sz (ty a) - 1 - fr c) (sp a)) u1
    exact rx_hb _ rfl rfl rfl (by omega) (by omega) (by omega) hu2 (H u2 (rd_gr2 dn hE (rd_grE (fun x _ _ => e2 x) hu2)))
end
