/-! LANES: may, wants, room, X and Y -/
theorem rn_x1 : ∀ s, s < 32 → nI s ^^^ 1 = nI (rq_ot (s + 1) - 1) := by decide +kernel
section
variable {ln fm tt le li rk we op ca mk wd wn fa pc ph pa pe pt se ls mo tp ac sz dw st ty ed fr sp go nz tk en ch nw ps pg cf ct la gr cr ne nl oe ol fl tl : Nat → Nat} {tn kn N : Nat} {th : Int32} {gp fs : Nat → Int32}
/-- what stands nearest on a lane -/
theorem rI_nr (I : (rq_L ln fm tt le li rk we op mk wd wn pc ph pa pe pt se ls mo tp ac sz dw st ty ed fr sp go tk en ch ps pg cf ct la gr cr ne nl oe ol fl tl tn N)) (e l p : Nat) (hl : l ≤ 1) : (rd_nr ps fr) (2 * e + l + 1) p 32 ≤ 32 ∧ (0 < (rd_nr ps fr) (2 * e + l + 1) p 32 → (rd_nr ps fr) (2 * e + l + 1) p 32 - 1 < 32 ∧ st ((rd_nr ps fr) (2 * e + l + 1) p 32 - 1) = 2 ∧ ed ((rd_nr ps fr) (2 * e + l + 1) p 32 - 1) = e ∧ la ((rd_nr ps fr) (2 * e + l + 1) p 32 - 1) = l ∧ p < fr ((rd_nr ps fr) (2 * e + l + 1) p 32 - 1)) := by
  refine ⟨rd_nrL 32, fun h => ?_⟩
  rcases rd_nrS (ps := ps) (fr := fr) (s := 2 * e + l + 1) (p := p) 32 with ⟨k1, _⟩ | ⟨a, k1, k2, k3, k4, _⟩
  · omega
  · rw [k1]
    obtain ⟨a1, a2, a3⟩ := (rq_onI (rI_on I) k2 hl).mpr k3
    exact ⟨k2, a1, a2, a3, k4⟩
theorem rI_nu (I : (rq_L ln fm tt le li rk we op mk wd wn pc ph pa pe pt se ls mo tp ac sz dw st ty ed fr sp go tk en ch ps pg cf ct la gr cr ne nl oe ol fl tl tn N)) (e l p : Nat) (hl : l ≤ 1) : (rd_nu ps fr) (2 * e + l + 1) p 32 ≤ 32 ∧ (0 < (rd_nu ps fr) (2 * e + l + 1) p 32 → (rd_nu ps fr) (2 * e + l + 1) p 32 - 1 < 32 ∧ st ((rd_nu ps fr) (2 * e + l + 1) p 32 - 1) = 2 ∧ ed ((rd_nu ps fr) (2 * e + l + 1) p 32 - 1) = e ∧ la ((rd_nu ps fr) (2 * e + l + 1) p 32 - 1) = l ∧ fr ((rd_nu ps fr) (2 * e + l + 1) p 32 - 1) ≤ p) := by
  refine ⟨rd_nuL 32, fun h => ?_⟩
  rcases rd_nuS (ps := ps) (fr := fr) (s := 2 * e + l + 1) (p := p) 32 with ⟨k1, _⟩ | ⟨a, k1, k2, k3, k4, _⟩
  · omega
  · rw [k1]
    obtain ⟨a1, a2, a3⟩ := (rq_onI (rI_on I) k2 hl).mpr k3
    exact ⟨k2, a1, a2, a3, k4⟩
/-- the last part of wants; n the own lane's nearest, m the other's -/
def rq_w2 (tp sz ty ed fr sp go : Nat → Nat) (Q : Prop) (n m c : Nat) : Prop := 0 < n ∧ sp (n - 1) < tp (ty c) ∧ fr (n - 1) < sz (ty (n - 1)) + 1 + fr c + 20 ∧ (m = 0 ∨ fr (n - 1) + sz (ty (m - 1)) + 10 ≤ fr (m - 1) + sz (ty (n - 1))) ∧ (Q ∨ go c = ed c)
theorem rq_wE {n o c : Nat} : (rq_wants ln fm tt mk tp ty ed fr sp go ps (fun x => sz (ty x))) n o c ↔ (0 < n ∧ (rq_ld ln fm tt mk) (o - 1) (n - 1) ∧ ¬ (rq_ld ln fm tt mk) (ps c - 1) (n - 1)) ∨ rq_w2 tp sz ty ed fr sp go (0 < n ∧ (rq_ld ln fm tt mk) (o - 1) (n - 1)) ((rd_nr ps fr) (ps c) (fr c) 32) ((rd_nr ps fr) o (fr c) 32) c := by
  constructor
  · rintro (h | ⟨a, a1, a2, a3, a4, a5⟩)
    · exact Or.inl h
    · right
      refine ⟨by omega, ?_⟩
      rw [a1]
      exact ⟨a2, a3, a4, a5⟩
  · rintro (h | ⟨a1, a2⟩)
    · exact Or.inl h
    · right
      refine ⟨(rd_nr ps fr) (ps c) (fr c) 32 - 1, by omega, a2⟩
theorem rx_w44 (post : Int32 → Prop) {c e l : Nat} {Q : Prop} (I : (rq_L ln fm tt le li rk we op mk wd wn pc ph pa pe pt se ls mo tp ac sz dw st ty ed fr sp go tk en ch ps pg cf ct la gr cr ne nl oe ol fl tl tn N)) (hc : c < 32) (he : ed c = e) (hl : l ≤ 1) (h : post (rb_ (rq_w2 tp sz ty ed fr sp go Q ((rd_nr ps fr) (2 * e + l + 1) (fr c) 32) ((rd_nr ps fr) (2 * e + (1 - l) + 1) (fr c) 32) c))) : wX_wantsToChange_44 post (nI c) (nI (2 * e + l)) (nI (2 * e + (1 - l))) (rb_ Q) (nI tn) (rn_A ln) (rn_A fm) (rn_A tt) (rn_A le) (rn_A li) (rn_A rk) (rn_A we) (rn_A op) (rn_A ca) (rn_A mk) (rn_B wd) (rn_B wn) (rn_A pc) (rn_A ph) (rn_A pa) (rn_A pe) (rn_A pt) (rn_A tp) (rn_A ac) (rn_A sz) (rn_A dw) (rn_A st) (rn_A ty) (rn_A ed) (rn_B ps) (rn_A fr) (rn_A sp) (rn_A go) (rn_A nz) (rn_B pg) (rn_B cf) (rn_B ct) (rn_A tk) (rn_A en) (rn_B ch) (rn_A nw) (rn_A tl) := by
  have A := rI_c I c
  have T := rI_y I c
  obtain ⟨n1, n2⟩ := rI_nr I e l (fr c) hl
  obtain ⟨m1, m2⟩ := rI_nr I e (1 - l) (fr c) (by omega)
  generalize hn : (rd_nr ps fr) (2 * e + l + 1) (fr c) 32 = n at *
  generalize hm : (rd_nr ps fr) (2 * e + (1 - l) + 1) (fr c) 32 = m at *
  refine ⟨pk_in c 32 hc, rx_nb _ rfl (rn_rA (by omega)) (by omega) (by omega) (rI_ps I) (rI_fr I) ?_⟩
  rw [hn]
  refine ek_f (rn_c2 (by omega)) (fun q => rb_p0 h (fun w => by have := w.1; omega)) (fun q => ?_)
  obtain ⟨a1, a2, a3, a4, a5⟩ := n2 (by omega)
  have B := rI_c I (n - 1)
  have S := rI_y I (n - 1)
  refine ⟨rn_ic (by omega) n1 (by omega), pk_in c 32 hc, rn_iA (by omega) A.2.1 (by omega), ?_⟩
  refine pk_lt (sp (n - 1)) (tp (ty c)) (fun q2 => ?_) (fun q2 => rb_p0 h (fun w => by have := w.2.1; omega)) (rn_Ac (by omega) (by omega)) (rn_AA (by omega) (by omega))
  refine rx_gp _ rfl (rn_cs (by omega)) I hc a1 (by rw [a3, he]) ⟨pk_in c 32 hc, rx_nb _ rfl (rn_rA (by omega)) (by omega) (by omega) (rI_ps I) (rI_fr I) ?_⟩
  rw [hm]
  have fin : ∀ z : Int, (m = 0 → z = 1000) → (0 < m → z = (fr (m - 1) : Int) - sz (ty (m - 1)) - 1 - fr c) → -100000 < z ∧ z < 100000 → wX_wantsToChange_129 post (nI c) (rb_ Q) (ri_z ((fr (n - 1) : Int) - sz (ty (n - 1)) - 1 - fr c)) (ri_z z) (nI tn) (rn_A ln) (rn_A fm) (rn_A tt) (rn_A le) (rn_A li) (rn_A rk) (rn_A we) (rn_A op) (rn_A ca) (rn_A mk) (rn_B wd) (rn_B wn) (rn_A pc) (rn_A ph) (rn_A pa) (rn_A pe) (rn_A pt) (rn_A tp) (rn_A ac) (rn_A sz) (rn_A dw) (rn_A st) (rn_A ty) (rn_A ed) (rn_B ps) (rn_A fr) (rn_A sp) (rn_A go) (rn_A nz) (rn_B pg) (rn_B cf) (rn_B ct) (rn_A tk) (rn_A en) (rn_B ch) (rn_A nw) (rn_A tl) := by
    intro z z0 z1 zb
    refine ek_f (ri_l (ri_n 20) rfl (by omega) (by omega)) (fun k => rb_p0 h (fun w => by have := w.2.2.1; omega)) (fun k => ?_)
    refine ek_f (ri_t rfl (b := (fr (n - 1) : Int) - sz (ty (n - 1)) - 1 - fr c + 10) (by rw [show (10 : Int32) = ri_z 10 from ri_n 10, ri_add]) (by omega) (by omega)) (fun k2 => rb_p0 h (fun w => by have := w.2.2.2.1; omega)) (fun k2 => ?_)
    have mm : m = 0 ∨ fr (n - 1) + sz (ty (m - 1)) + 10 ≤ fr (m - 1) + sz (ty (n - 1)) := by omega
    refine rb_b (fun q3 => ⟨pk_in c 32 hc, pk_in c 32 hc, ?_⟩) (fun q3 => rb_p1 h ⟨by omega, q2, by omega, mm, Or.inl q3⟩)
    exact ek_f (rn_e (rn_rA (by omega)) (rn_rA (by omega)) (by omega) (by omega)) (fun q4 => rb_p1 h ⟨by omega, q2, by omega, mm, Or.inr q4⟩) (fun q4 => rb_p0 h (fun w => w.2.2.2.2.elim q3 q4))
  refine ek_f (rn_c2 (by omega)) (fun q3 => fin 1000 (fun _ => rfl) (fun w => by omega) (by omega)) (fun q3 => ?_)
  obtain ⟨b1, b2, b3, b4, b5⟩ := m2 (by omega)
  have D := rI_c I (m - 1)
  have U := rI_y I (m - 1)
  exact rx_gp _ rfl (rn_cs (by omega)) I hc b1 (by rw [b3, he]) (fin _ (fun w => by omega) (fun _ => rfl) (by omega))
theorem rx_wa (post : Int32 → Prop) {c : Nat} {x : Int32} (hx : x = nI c) (I : (rq_L ln fm tt le li rk we op mk wd wn pc ph pa pe pt se ls mo tp ac sz dw st ty ed fr sp go tk en ch ps pg cf ct la gr cr ne nl oe ol fl tl tn N)) (hc : c < 32) (h2 : st c = 2) (h : post (rb_ ((rq_wants ln fm tt mk tp ty ed fr sp go ps (fun x => sz (ty x))) ((rq_nx wn ed go) c) (rq_ot (ps c)) c))) : wpX_wantsToChange post (nI tn, rn_A ln, rn_A fm, rn_A tt, rn_A le, rn_A li, rn_A rk, rn_A we, rn_A op, rn_A ca, rn_A mk, rn_B wd, rn_B wn, rn_A pc, rn_A ph, rn_A pa, rn_A pe, rn_A pt, rn_A tp, rn_A ac, rn_A sz, rn_A dw, rn_A st, rn_A ty, rn_A ed, rn_B ps, rn_A fr, rn_A sp, rn_A go, rn_A nz, rn_B pg, rn_B cf, rn_B ct, rn_A tk, rn_A en, rn_B ch, rn_A nw, rn_A tl) x := by
  subst hx
  have A := rI_c I c
  obtain ⟨p1, p2⟩ := (rI_p I hc).2.2.2.1 h2
  have hl : la c ≤ 1 := by omega
  have o1 : rq_ot (ps c) = 2 * ed c + (1 - la c) + 1 := by rw [p1]; exact rq_otE hl
  obtain ⟨x1, x2⟩ := rI_nx I c
  rw [rb_e rq_wE] at h
  have ex : rn_c (ps c) ^^^ 1 = nI (2 * ed c + (1 - la c)) := by
    rw [p1]
    show nI (2 * ed c + la c) ^^^ 1 = _
    rw [rn_x1 _ (by omega), rq_otE hl]
    rfl
  refine ⟨pk_in c 32 hc, nm_r (e' := nI (2 * ed c + la c)) (by rw [rn_rB (by omega), p1]; rfl) (nm_r (e' := nI (2 * ed c + (1 - la c))) (by rw [p1] at ex; exact ex) ?_)⟩
  refine rx_nx _ rfl hc (rI_ed I) (fun c => (rI_c I c).2.2.2.1) ?_
  refine rx_ld _ rfl rfl I.1 (by omega) x1 ?_
  have s1 : rq_ot (ps c) - 1 = 2 * ed c + (1 - la c) := by omega
  have s2 : ps c - 1 = 2 * ed c + la c := by omega
  rw [s1, s2, o1] at h
  rw [show (rd_nr ps fr) (ps c) (fr c) 32 = (rd_nr ps fr) (2 * ed c + la c + 1) (fr c) 32 by rw [p1]] at h
  refine rb_b (fun q => rx_w44 post (Q := 0 < (rq_nx wn ed go) c ∧ (rq_ld ln fm tt mk) (2 * ed c + (1 - la c)) ((rq_nx wn ed go) c - 1)) I hc rfl hl ?_) (fun q => ?_)
  · rw [rb_e (Q := (0 < (rq_nx wn ed go) c ∧ (rq_ld ln fm tt mk) (2 * ed c + (1 - la c)) ((rq_nx wn ed go) c - 1) ∧ ¬ (rq_ld ln fm tt mk) (2 * ed c + la c) ((rq_nx wn ed go) c - 1)) ∨ rq_w2 tp sz ty ed fr sp go (0 < (rq_nx wn ed go) c ∧ (rq_ld ln fm tt mk) (2 * ed c + (1 - la c)) ((rq_nx wn ed go) c - 1)) ((rd_nr ps fr) (2 * ed c + la c + 1) (fr c) 32) ((rd_nr ps fr) (2 * ed c + (1 - la c) + 1) (fr c) 32) c) ⟨Or.inr, fun w => w.elim (fun v => absurd ⟨v.1, v.2.1⟩ q) id⟩]
    exact h
  · refine rx_ld _ rfl rfl I.1 (by omega) x1 ?_
    refine rb_b (fun q2 => rb_p1 h (Or.inl ⟨q.1, q.2, fun w => q2 ⟨q.1, w⟩⟩)) (fun q2 => rx_w44 post (Q := 0 < (rq_nx wn ed go) c ∧ (rq_ld ln fm tt mk) (2 * ed c + (1 - la c)) ((rq_nx wn ed go) c - 1)) I hc rfl hl ?_)
    rw [rb_e (Q := (0 < (rq_nx wn ed go) c ∧ (rq_ld ln fm tt mk) (2 * ed c + (1 - la c)) ((rq_nx wn ed go) c - 1) ∧ ¬ (rq_ld ln fm tt mk) (2 * ed c + la c) ((rq_nx wn ed go) c - 1)) ∨ rq_w2 tp sz ty ed fr sp go (0 < (rq_nx wn ed go) c ∧ (rq_ld ln fm tt mk) (2 * ed c + (1 - la c)) ((rq_nx wn ed go) c - 1)) ((rd_nr ps fr) (2 * ed c + la c + 1) (fr c) 32) ((rd_nr ps fr) (2 * ed c + (1 - la c) + 1) (fr c) 32) c) ⟨Or.inr, fun w => w.elim (fun v => absurd q2.2 v.2.2) id⟩]
    exact h
/-- the last part of room -/
def rq_r2 (sz ty fr sp pg : Nat → Nat) (o m c : Nat) : Prop := (m = 0 → ¬ ∃ d, d < 32 ∧ pg d = o) ∧ (0 < m → pg (m - 1) = 0 ∧ rd_Fo (fr (m - 1)) (sp (m - 1)) (fr c) (sp c) (sz (ty c)))
theorem rq_rE {o c : Nat} : (rq_room fr sp ps pg (fun x => sz (ty x))) o c ↔ (0 < (rd_nr ps fr) o (fr c) 32 → rd_Fo (fr c) (sp c) (fr ((rd_nr ps fr) o (fr c) 32 - 1)) (sp ((rd_nr ps fr) o (fr c) 32 - 1)) (sz (ty ((rd_nr ps fr) o (fr c) 32 - 1)))) ∧ rq_r2 sz ty fr sp pg o ((rd_nu ps fr) o (fr c) 32) c := by
  constructor
  · rintro ⟨h1, h2, h3⟩
    exact ⟨fun w => h1 _ (by omega), fun w ⟨d, d1, d2⟩ => h2 w d d1 d2, fun w => h3 _ (by omega)⟩
  · rintro ⟨h1, h2, h3⟩
    refine ⟨fun a ha => ?_, fun w d d1 d2 => h2 w ⟨d, d1, d2⟩, fun b hb => ?_⟩
    · have := h1 (by omega)
      rw [ha] at this
      exact this
    · have := h3 (by omega)
      rw [hb] at this
      exact this
theorem rx_r57 (post : Int32 → Prop) {c e l : Nat} (I : (rq_L ln fm tt le li rk we op mk wd wn pc ph pa pe pt se ls mo tp ac sz dw st ty ed fr sp go tk en ch ps pg cf ct la gr cr ne nl oe ol fl tl tn N)) (hc : c < 32) (he : ed c = e) (hl : l ≤ 1) (he6 : e < 16) (h : post (rb_ (rq_r2 sz ty fr sp pg (2 * e + l + 1) ((rd_nu ps fr) (2 * e + l + 1) (fr c) 32) c))) : wX_hasRoomBeside_57 post (nI c) (nI (2 * e + l)) (nI tn) (rn_A ln) (rn_A fm) (rn_A tt) (rn_A le) (rn_A li) (rn_A rk) (rn_A we) (rn_A op) (rn_A ca) (rn_A mk) (rn_B wd) (rn_B wn) (rn_A pc) (rn_A ph) (rn_A pa) (rn_A pe) (rn_A pt) (rn_A tp) (rn_A ac) (rn_A sz) (rn_A dw) (rn_A st) (rn_A ty) (rn_A ed) (rn_B ps) (rn_A fr) (rn_A sp) (rn_A go) (rn_A nz) (rn_B pg) (rn_B cf) (rn_B ct) (rn_A tk) (rn_A en) (rn_B ch) (rn_A nw) (rn_A tl) := by
  have A := rI_c I c
  obtain ⟨n1, n2⟩ := rI_nu I e l (fr c) hl
  generalize hn : (rd_nu ps fr) (2 * e + l + 1) (fr c) 32 = n at *
  refine ⟨pk_in c 32 hc, rx_nu _ rfl (rn_rA (by omega)) (by omega) (by omega) (rI_ps I) (rI_fr I) ?_⟩
  rw [hn]
  refine ek_f (rn_c2 (by omega)) (fun q => rx_gt _ rfl (by omega) (rI_pg I) (rb_b (fun q2 => rb_p1 h ⟨fun _ => q2, fun w => by omega⟩) (fun q2 => rb_p0 h (fun w => w.1 q q2)))) (fun q => ?_)
  obtain ⟨a1, a2, a3, a4, a5⟩ := n2 (by omega)
  have B := rI_c I (n - 1)
  have S := rI_y I c
  have P := (rI_p I a1).2.1
  refine rx_gp _ (rn_cs (by omega)) rfl I a1 hc (by rw [a3, he]) ⟨rn_ic (by omega) n1 (by omega), ?_⟩
  refine ek_f (rn_2 (rn_Bc (by omega) (by omega)) (b := 0) rfl (by omega) (by omega)) (fun q2 => ⟨rn_ic (by omega) n1 (by omega), pk_in c 32 hc, ?_⟩) (fun q2 => rb_p0 h (fun w => q2 (w.2 (by omega)).1))
  rw [rn_Ac (by omega) (by omega), rn_rA (by omega)]
  refine rx_safe _ (by omega) (by omega) (by omega) ?_
  rw [rb_e rd_FoZ]
  exact rb_b (fun q3 => rb_p0 h (fun w => q3 (w.2 (by omega)).2)) (fun q3 => rb_p1 h ⟨fun w => by omega, fun _ => ⟨q2, q3⟩⟩)
theorem rx_rm (post : Int32 → Prop) {c : Nat} {x : Int32} (hx : x = nI c) (I : (rq_L ln fm tt le li rk we op mk wd wn pc ph pa pe pt se ls mo tp ac sz dw st ty ed fr sp go tk en ch ps pg cf ct la gr cr ne nl oe ol fl tl tn N)) (hc : c < 32) (h2 : st c = 2) (h : post (rb_ ((rq_room fr sp ps pg (fun x => sz (ty x))) (rq_ot (ps c)) c))) : wpX_hasRoomBeside post (nI tn, rn_A ln, rn_A fm, rn_A tt, rn_A le, rn_A li, rn_A rk, rn_A we, rn_A op, rn_A ca, rn_A mk, rn_B wd, rn_B wn, rn_A pc, rn_A ph, rn_A pa, rn_A pe, rn_A pt, rn_A tp, rn_A ac, rn_A sz, rn_A dw, rn_A st, rn_A ty, rn_A ed, rn_B ps, rn_A fr, rn_A sp, rn_A go, rn_A nz, rn_B pg, rn_B cf, rn_B ct, rn_A tk, rn_A en, rn_B ch, rn_A nw, rn_A tl) x := by
  subst hx
  have A := rI_c I c
  obtain ⟨p1, p2⟩ := (rI_p I hc).2.2.2.1 h2
  have hl : la c ≤ 1 := by omega
  have o1 : rq_ot (ps c) = 2 * ed c + (1 - la c) + 1 := by rw [p1]; exact rq_otE hl
  rw [rb_e rq_rE, o1] at h
  obtain ⟨m1, m2⟩ := rI_nr I (ed c) (1 - la c) (fr c) (by omega)
  refine ⟨pk_in c 32 hc, nm_r (e' := nI (2 * ed c + (1 - la c))) (by
    rw [rn_rB (by omega), p1]
    show nI (2 * ed c + la c) ^^^ 1 = _
    rw [rn_x1 _ (by omega), rq_otE hl]
    rfl) ⟨pk_in c 32 hc, rx_nb _ rfl (rn_rA (by omega)) (by omega) (by omega) (rI_ps I) (rI_fr I) ?_⟩⟩
  generalize hm : (rd_nr ps fr) (2 * ed c + (1 - la c) + 1) (fr c) 32 = m at *
  refine ek_f (rn_c2 (by omega)) (fun q => rx_r57 post I hc rfl (by omega) (by omega) ?_) (fun q => ?_)
  · rw [rb_e (Q := (0 < m → rd_Fo (fr c) (sp c) (fr (m - 1)) (sp (m - 1)) (sz (ty (m - 1)))) ∧ rq_r2 sz ty fr sp pg (2 * ed c + (1 - la c) + 1) ((rd_nu ps fr) (2 * ed c + (1 - la c) + 1) (fr c) 32) c) ⟨fun w => ⟨fun v => by omega, w⟩, fun w => w.2⟩]
    exact h
  · obtain ⟨b1, b2, b3, b4, b5⟩ := m2 (by omega)
    have D := rI_c I (m - 1)
    have U := rI_y I (m - 1)
    refine rx_gp _ rfl (rn_cs (by omega)) I hc b1 b3 ⟨pk_in c 32 hc, rn_ic (by omega) m1 (by omega), ?_⟩
    rw [rn_Ac (by omega) (by omega), rn_rA (by omega)]
    refine rx_safe _ (by omega) (by omega) (by omega) ?_
    rw [rb_e rd_FoZ]
    refine rb_b (fun q3 => rb_p0 h (fun w => q3 (w.1 (by omega)))) (fun q3 => rx_r57 post I hc rfl (by omega) (by omega) ?_)
    rw [rb_e (Q := (0 < m → rd_Fo (fr c) (sp c) (fr (m - 1)) (sp (m - 1)) (sz (ty (m - 1)))) ∧ rq_r2 sz ty fr sp pg (2 * ed c + (1 - la c) + 1) ((rd_nu ps fr) (2 * ed c + (1 - la c) + 1) (fr c) 32) c) ⟨fun w => ⟨fun _ => q3, w⟩, fun w => w.2⟩]
    exact h
/-! Y -/
theorem ry_w74' (post : Int32 → SY → Prop) {c e l : Nat} {Q : Prop} (I : (rq_L ln fm tt le li rk we op mk wd wn pc ph pa pe pt se ls mo tp ac sz dw st ty ed fr sp go tk en ch ps pg cf ct la gr cr ne nl oe ol fl tl tn N)) (hc : c < 32) (he : ed c = e) (hl : l ≤ 1) (h : post (rb_ (rq_w2 tp sz ty ed fr sp go Q ((rd_nr ps fr) (2 * e + l + 1) (fr c) 32) ((rd_nr ps fr) (2 * e + (1 - l) + 1) (fr c) 32) c)) (nI kn, nI tn, th, rn_T ln, rn_A op, rn_A fm, rn_A tt, rn_A le, rn_A ln, rn_A li, rn_A rk, rn_A we, rn_A ca, rn_A mk, rn_A fa, rn_A tp, rn_A ac, rn_A sz, rn_A dw, rn_A st, rn_A ty, rn_A ed, rn_A la, rn_A fr, rn_A sp, rn_A go, rn_A nz, rn_A tk, rn_C ch, rn_A en, rn_A nw, rn_A gr, rn_A cr, rn_A ne, rn_A nl, rn_A oe, rn_A ol, rn_A fl, rn_A pc, rn_A ph, rn_A pa, rn_A se, rn_A ls, rn_A mo, rn_A tl, gp, fs)) : wY_wants_74 post (nI c) (nI (1 - l)) (nI e) (rb_ Q) (nI kn) (nI tn) th (rn_T ln) (rn_A op) (rn_A fm) (rn_A tt) (rn_A le) (rn_A ln) (rn_A li) (rn_A rk) (rn_A we) (rn_A ca) (rn_A mk) (rn_A fa) (rn_A tp) (rn_A ac) (rn_A sz) (rn_A dw) (rn_A st) (rn_A ty) (rn_A ed) (rn_A la) (rn_A fr) (rn_A sp) (rn_A go) (rn_A nz) (rn_A tk) (rn_C ch) (rn_A en) (rn_A nw) (rn_A gr) (rn_A cr) (rn_A ne) (rn_A nl) (rn_A oe) (rn_A ol) (rn_A fl) (rn_A pc) (rn_A ph) (rn_A pa) (rn_A se) (rn_A ls) (rn_A mo) (rn_A tl) gp fs := by
  have A := rI_c I c
  have T := rI_y I c
  obtain ⟨n1, n2⟩ := rI_nr I e l (fr c) hl
  obtain ⟨m1, m2⟩ := rI_nr I e (1 - l) (fr c) (by omega)
  generalize hn : (rd_nr ps fr) (2 * e + l + 1) (fr c) 32 = n at *
  generalize hm : (rd_nr ps fr) (2 * e + (1 - l) + 1) (fr c) 32 = m at *
  have hT : ∀ c, ty c < 4 := fun c => (rI_c I c).2.1
  refine ⟨pk_in c 32 hc, ry_ab _ rfl (l := l) (by rw [show (1 : Int32) = nI 1 from rfl, pk_sub (by omega)]; congr 1; omega) (rn_rA (by omega)) (by omega) hl (by omega) (rI_on I) (rI_fr I) ?_⟩
  rw [hn]
  refine ek_f (rn_y0 (by omega)) (fun q => ?_) (fun q => rb_q0 h (fun w => q w.1))
  obtain ⟨a1, a2, a3, a4, a5⟩ := n2 q
  have B := rI_c I (n - 1)
  have S := rI_y I (n - 1)
  refine ry_gp _ rfl (rn_ys q) hT hc a1 ?_
  refine ek_f (ri_l (ri_n 20) rfl (by omega) (by omega)) (fun k => rb_q0 h (fun w => by have := w.2.2.1; omega)) (fun k => ⟨rn_iy q n1 (by omega), pk_in c 32 hc, rn_iA (by omega) A.2.1 (by omega), ?_⟩)
  refine pk_lt (sp (n - 1)) (tp (ty c)) (fun q2 => ⟨pk_in c 32 hc, ?_⟩) (fun q2 => rb_q0 h (fun w => by have := w.2.1; omega)) (rn_Ay q (by omega)) (rn_AA (by omega) (by omega))
  refine ry_ab _ rfl rfl (rn_rA (by omega)) (by omega) (by omega) (by omega) (rI_on I) (rI_fr I) ?_
  rw [hm]
  have fin : ∀ z : Int, (m = 0 → z = 1000) → (0 < m → z = (fr (m - 1) : Int) - sz (ty (m - 1)) - 1 - fr c) → -100000 < z ∧ z < 100000 → wY_wants_168 post (nI c) (nI e) (rb_ Q) (ri_z ((fr (n - 1) : Int) - sz (ty (n - 1)) - 1 - fr c)) (ri_z z) (nI kn) (nI tn) th (rn_T ln) (rn_A op) (rn_A fm) (rn_A tt) (rn_A le) (rn_A ln) (rn_A li) (rn_A rk) (rn_A we) (rn_A ca) (rn_A mk) (rn_A fa) (rn_A tp) (rn_A ac) (rn_A sz) (rn_A dw) (rn_A st) (rn_A ty) (rn_A ed) (rn_A la) (rn_A fr) (rn_A sp) (rn_A go) (rn_A nz) (rn_A tk) (rn_C ch) (rn_A en) (rn_A nw) (rn_A gr) (rn_A cr) (rn_A ne) (rn_A nl) (rn_A oe) (rn_A ol) (rn_A fl) (rn_A pc) (rn_A ph) (rn_A pa) (rn_A se) (rn_A ls) (rn_A mo) (rn_A tl) gp fs := by
    intro z z0 z1 zb
    refine ek_f (ri_t rfl (b := (fr (n - 1) : Int) - sz (ty (n - 1)) - 1 - fr c + 10) (by rw [show (10 : Int32) = ri_z 10 from ri_n 10, ri_add]) (by omega) (by omega)) (fun k2 => rb_q0 h (fun w => by have := w.2.2.2.1; omega)) (fun k2 => ⟨pk_in c 32 hc, ?_⟩)
    have mm : m = 0 ∨ fr (n - 1) + sz (ty (m - 1)) + 10 ≤ fr (m - 1) + sz (ty (n - 1)) := by omega
    refine ek_f (rn_e rfl (rn_rA (by omega)) (by omega) (by omega)) (fun q4 => rb_q1 h ⟨q, q2, by omega, mm, Or.inr (by omega)⟩) (fun q4 => ?_)
    exact rb_b (fun q3 => rb_q0 h (fun w => w.2.2.2.2.elim q3 (fun v => q4 (by omega)))) (fun q3 => rb_q1 h ⟨q, q2, by omega, mm, Or.inl q3⟩)
  refine ek_f (rn_y0 (by omega)) (fun q3 => ?_) (fun q3 => fin 1000 (fun _ => rfl) (fun w => absurd w q3) (by omega))
  obtain ⟨b1, b2, b3, b4, b5⟩ := m2 q3
  have D := rI_c I (m - 1)
  have U := rI_y I (m - 1)
  exact ry_gp _ rfl (rn_ys q3) hT hc b1 (fin _ (fun w => by omega) (fun _ => rfl) (by omega))
theorem ry_w35 (post : Int32 → SY → Prop) {c l n : Nat} {Q : Prop} (I : (rq_L ln fm tt le li rk we op mk wd wn pc ph pa pe pt se ls mo tp ac sz dw st ty ed fr sp go tk en ch ps pg cf ct la gr cr ne nl oe ol fl tl tn N)) (hc : c < 32) (hl : l ≤ 1) (hn : n ≤ 16) (h : post (rb_ ((Q ∧ ¬ (0 < n ∧ (rq_ld ln fm tt mk) (2 * ed c + l) (n - 1))) ∨ rq_w2 tp sz ty ed fr sp go Q ((rd_nr ps fr) (2 * ed c + l + 1) (fr c) 32) ((rd_nr ps fr) (2 * ed c + (1 - l) + 1) (fr c) 32) c)) (nI kn, nI tn, th, rn_T ln, rn_A op, rn_A fm, rn_A tt, rn_A le, rn_A ln, rn_A li, rn_A rk, rn_A we, rn_A ca, rn_A mk, rn_A fa, rn_A tp, rn_A ac, rn_A sz, rn_A dw, rn_A st, rn_A ty, rn_A ed, rn_A la, rn_A fr, rn_A sp, rn_A go, rn_A nz, rn_A tk, rn_C ch, rn_A en, rn_A nw, rn_A gr, rn_A cr, rn_A ne, rn_A nl, rn_A oe, rn_A ol, rn_A fl, rn_A pc, rn_A ph, rn_A pa, rn_A se, rn_A ls, rn_A mo, rn_A tl, gp, fs)) : wY_wants_35 post (nI c) (nI (1 - l)) (nI (ed c)) (rn_c n) (rb_ Q) (nI kn) (nI tn) th (rn_T ln) (rn_A op) (rn_A fm) (rn_A tt) (rn_A le) (rn_A ln) (rn_A li) (rn_A rk) (rn_A we) (rn_A ca) (rn_A mk) (rn_A fa) (rn_A tp) (rn_A ac) (rn_A sz) (rn_A dw) (rn_A st) (rn_A ty) (rn_A ed) (rn_A la) (rn_A fr) (rn_A sp) (rn_A go) (rn_A nz) (rn_A tk) (rn_C ch) (rn_A en) (rn_A nw) (rn_A gr) (rn_A cr) (rn_A ne) (rn_A nl) (rn_A oe) (rn_A ol) (rn_A fl) (rn_A pc) (rn_A ph) (rn_A pa) (rn_A se) (rn_A ls) (rn_A mo) (rn_A tl) gp fs := by
  have A := rI_c I c
  have s59 : ¬ (0 < n ∧ (rq_ld ln fm tt mk) (2 * ed c + l) (n - 1)) → wY_wants_59 post (nI c) (nI (1 - l)) (nI (ed c)) (rb_ Q) (nI kn) (nI tn) th (rn_T ln) (rn_A op) (rn_A fm) (rn_A tt) (rn_A le) (rn_A ln) (rn_A li) (rn_A rk) (rn_A we) (rn_A ca) (rn_A mk) (rn_A fa) (rn_A tp) (rn_A ac) (rn_A sz) (rn_A dw) (rn_A st) (rn_A ty) (rn_A ed) (rn_A la) (rn_A fr) (rn_A sp) (rn_A go) (rn_A nz) (rn_A tk) (rn_C ch) (rn_A en) (rn_A nw) (rn_A gr) (rn_A cr) (rn_A ne) (rn_A nl) (rn_A oe) (rn_A ol) (rn_A fl) (rn_A pc) (rn_A ph) (rn_A pa) (rn_A se) (rn_A ls) (rn_A mo) (rn_A tl) gp fs := by
    intro k
    refine rb_b (fun q => ry_w74' post I hc rfl hl ?_) (fun q => br_t rfl (rb_q1 h (Or.inl ⟨q, k⟩)))
    rw [rb_e (Q := (Q ∧ ¬ (0 < n ∧ (rq_ld ln fm tt mk) (2 * ed c + l) (n - 1))) ∨ rq_w2 tp sz ty ed fr sp go Q ((rd_nr ps fr) (2 * ed c + l + 1) (fr c) 32) ((rd_nr ps fr) (2 * ed c + (1 - l) + 1) (fr c) 32) c) ⟨Or.inr, fun w => w.elim (fun v => absurd v.1 q) id⟩]
    exact h
  refine ek_f (rn_cn (by omega)) (fun q => s59 (fun w => by omega)) (fun q => ?_)
  refine ry_ld _ rfl (l := l) (by rw [show (1 : Int32) = nI 1 from rfl, pk_sub (by omega)]; congr 1; omega) (rn_cs (by omega)) I.1 A.2.2.1 hl (by omega) ?_
  refine rb_b (fun q2 => s59 (fun w => q2 w.2)) (fun q2 => ?_)
  have r : rq_w2 tp sz ty ed fr sp go Q ((rd_nr ps fr) (2 * ed c + l + 1) (fr c) 32) ((rd_nr ps fr) (2 * ed c + (1 - l) + 1) (fr c) 32) c ↔ (Q ∧ ¬ (0 < n ∧ (rq_ld ln fm tt mk) (2 * ed c + l) (n - 1))) ∨ rq_w2 tp sz ty ed fr sp go Q ((rd_nr ps fr) (2 * ed c + l + 1) (fr c) 32) ((rd_nr ps fr) (2 * ed c + (1 - l) + 1) (fr c) 32) c := ⟨Or.inr, fun w => w.elim (fun v => absurd ⟨by omega, q2⟩ v.2) id⟩
  rw [← rb_e r] at h
  exact rb_b (fun _ => ry_w74' post I hc rfl hl h) (fun _ => br_f (by decide) (ry_w74' post I hc rfl hl h))
theorem ry_wa (post : Int32 → SY → Prop) {c : Nat} {x y : Int32} (hx : x = nI c) (hy : y = nI (1 - la c)) (I : (rq_L ln fm tt le li rk we op mk wd wn pc ph pa pe pt se ls mo tp ac sz dw st ty ed fr sp go tk en ch ps pg cf ct la gr cr ne nl oe ol fl tl tn N)) (hW : (rq_WY ln fm tt le li we op mk fa kn)) (hc : c < 32) (h2 : st c = 2) (H : ∀ kn fa, (rq_WY ln fm tt le li we op mk fa kn) → post (rb_ ((rq_wants ln fm tt mk tp ty ed fr sp go ps (fun x => sz (ty x))) ((rq_nx wn ed go) c) (rq_ot (ps c)) c)) (nI kn, nI tn, th, rn_T ln, rn_A op, rn_A fm, rn_A tt, rn_A le, rn_A ln, rn_A li, rn_A rk, rn_A we, rn_A ca, rn_A mk, rn_A fa, rn_A tp, rn_A ac, rn_A sz, rn_A dw, rn_A st, rn_A ty, rn_A ed, rn_A la, rn_A fr, rn_A sp, rn_A go, rn_A nz, rn_A tk, rn_C ch, rn_A en, rn_A nw, rn_A gr, rn_A cr, rn_A ne, rn_A nl, rn_A oe, rn_A ol, rn_A fl, rn_A pc, rn_A ph, rn_A pa, rn_A se, rn_A ls, rn_A mo, rn_A tl, gp, fs)) : wpY_wants post (nI kn, nI tn, th, rn_T ln, rn_A op, rn_A fm, rn_A tt, rn_A le, rn_A ln, rn_A li, rn_A rk, rn_A we, rn_A ca, rn_A mk, rn_A fa, rn_A tp, rn_A ac, rn_A sz, rn_A dw, rn_A st, rn_A ty, rn_A ed, rn_A la, rn_A fr, rn_A sp, rn_A go, rn_A nz, rn_A tk, rn_C ch, rn_A en, rn_A nw, rn_A gr, rn_A cr, rn_A ne, rn_A nl, rn_A oe, rn_A ol, rn_A fl, rn_A pc, rn_A ph, rn_A pa, rn_A se, rn_A ls, rn_A mo, rn_A tl, gp, fs) x y := by
  subst hx hy
  have A := rI_c I c
  obtain ⟨p1, p2⟩ := (rI_p I hc).2.2.2.1 h2
  have hl : la c ≤ 1 := by omega
  have o1 : rq_ot (ps c) = 2 * ed c + (1 - la c) + 1 := by rw [p1]; exact rq_otE hl
  obtain ⟨x1, x2⟩ := rI_nx I c
  refine ⟨pk_in c 32 hc, nm_r (rn_rA (by omega)) (ry_nxo _ rfl I hW hc (fun kn fa hW' => ?_))⟩
  have h := H kn fa hW'
  rw [rb_e rq_wE] at h
  have s1 : rq_ot (ps c) - 1 = 2 * ed c + (1 - la c) := by omega
  have s2 : ps c - 1 = 2 * ed c + la c := by omega
  rw [s1, s2, o1] at h
  rw [show (rd_nr ps fr) (ps c) (fr c) 32 = (rd_nr ps fr) (2 * ed c + la c + 1) (fr c) 32 by rw [p1]] at h
  have E2 : ∀ {Q : Prop}, (Q ↔ (0 < (rq_nx wn ed go) c ∧ (rq_ld ln fm tt mk) (2 * ed c + (1 - la c)) ((rq_nx wn ed go) c - 1))) → (((Q ∧ ¬ (0 < (rq_nx wn ed go) c ∧ (rq_ld ln fm tt mk) (2 * ed c + la c) ((rq_nx wn ed go) c - 1))) ∨ rq_w2 tp sz ty ed fr sp go Q ((rd_nr ps fr) (2 * ed c + la c + 1) (fr c) 32) ((rd_nr ps fr) (2 * ed c + (1 - la c) + 1) (fr c) 32) c) ↔ ((0 < (rq_nx wn ed go) c ∧ (rq_ld ln fm tt mk) (2 * ed c + (1 - la c)) ((rq_nx wn ed go) c - 1) ∧ ¬ (rq_ld ln fm tt mk) (2 * ed c + la c) ((rq_nx wn ed go) c - 1)) ∨ rq_w2 tp sz ty ed fr sp go (0 < (rq_nx wn ed go) c ∧ (rq_ld ln fm tt mk) (2 * ed c + (1 - la c)) ((rq_nx wn ed go) c - 1)) ((rd_nr ps fr) (2 * ed c + la c + 1) (fr c) 32) ((rd_nr ps fr) (2 * ed c + (1 - la c) + 1) (fr c) 32) c)) := by
    intro Q hQ
    rw [propext hQ]
    constructor
    · rintro (⟨a, b⟩ | a)
      · exact Or.inl ⟨a.1, a.2, fun w => b ⟨a.1, w⟩⟩
      · exact Or.inr a
    · rintro (⟨a, b, d⟩ | a)
      · exact Or.inl ⟨⟨a, b⟩, fun w => d w.2⟩
      · exact Or.inr a
  refine ek_f (rn_cn (by omega)) (fun q => ?_) (fun q => ?_)
  · have := ry_w35 (Q := False) post I hc hl x1 (by rw [rb_e (E2 ⟨False.elim, fun w => by omega⟩)]; exact h)
    rw [rb_f (fun w => w)] at this
    exact this
  · refine ry_ld _ rfl rfl (rn_cs (by omega)) I.1 A.2.2.1 (by omega) (by omega) (rb_b (fun q2 => ?_) (fun q2 => ?_))
    · have := ry_w35 (Q := False) post I hc hl x1 (by rw [rb_e (E2 ⟨False.elim, fun w => q2 w.2⟩)]; exact h)
      rw [rb_f (fun w => w)] at this
      exact this
    · have := ry_w35 (Q := True) post I hc hl x1 (by rw [rb_e (E2 ⟨fun _ => ⟨by omega, q2⟩, fun _ => trivial⟩)]; exact h)
      rw [rb_t trivial] at this
      exact this
theorem ry_m104 (post : Int32 → SY → Prop) {c e l : Nat} (I : (rq_L ln fm tt le li rk we op mk wd wn pc ph pa pe pt se ls mo tp ac sz dw st ty ed fr sp go tk en ch ps pg cf ct la gr cr ne nl oe ol fl tl tn N)) (hc : c < 32) (he : ed c = e) (he6 : e < 16) (hl : l ≤ 1) (ho : ps c ≠ 2 * e + l + 1) (h : post (rb_ (rq_r2 sz ty fr sp pg (2 * e + l + 1) ((rd_nu ps fr) (2 * e + l + 1) (fr c) 32) c)) (nI kn, nI tn, th, rn_T ln, rn_A op, rn_A fm, rn_A tt, rn_A le, rn_A ln, rn_A li, rn_A rk, rn_A we, rn_A ca, rn_A mk, rn_A fa, rn_A tp, rn_A ac, rn_A sz, rn_A dw, rn_A st, rn_A ty, rn_A ed, rn_A la, rn_A fr, rn_A sp, rn_A go, rn_A nz, rn_A tk, rn_C ch, rn_A en, rn_A nw, rn_A gr, rn_A cr, rn_A ne, rn_A nl, rn_A oe, rn_A ol, rn_A fl, rn_A pc, rn_A ph, rn_A pa, rn_A se, rn_A ls, rn_A mo, rn_A tl, gp, fs)) : wY_mayChange_104 post (nI c) (nI e) (nI l) (nI kn) (nI tn) th (rn_T ln) (rn_A op) (rn_A fm) (rn_A tt) (rn_A le) (rn_A ln) (rn_A li) (rn_A rk) (rn_A we) (rn_A ca) (rn_A mk) (rn_A fa) (rn_A tp) (rn_A ac) (rn_A sz) (rn_A dw) (rn_A st) (rn_A ty) (rn_A ed) (rn_A la) (rn_A fr) (rn_A sp) (rn_A go) (rn_A nz) (rn_A tk) (rn_C ch) (rn_A en) (rn_A nw) (rn_A gr) (rn_A cr) (rn_A ne) (rn_A nl) (rn_A oe) (rn_A ol) (rn_A fl) (rn_A pc) (rn_A ph) (rn_A pa) (rn_A se) (rn_A ls) (rn_A mo) (rn_A tl) gp fs := by
  have A := rI_c I c
  obtain ⟨n1, n2⟩ := rI_nu I e l (fr c) hl
  generalize hn : (rd_nu ps fr) (2 * e + l + 1) (fr c) 32 = n at *
  have hT : ∀ c, ty c < 4 := fun c => (rI_c I c).2.1
  refine ⟨pk_in c 32 hc, ry_nu _ rfl rfl (rn_rA (by omega)) (by omega) hl (by omega) (rI_on I) (rI_fr I) (fun i hi k => by rw [nI_eq (by omega) (by omega)] at k; subst k; exact ho) ?_⟩
  rw [hn]
  refine ek_f (rn_y0 (by omega)) (fun q => ⟨pk_in c 32 hc, ?_⟩) (fun q => ry_gt _ rfl rfl (by omega) hl (rI_gd I) (rb_b (fun q2 => rb_q1 h ⟨fun _ => q2, fun w => absurd w q⟩) (fun q2 => rb_q0 h (fun w => w.1 (by omega) q2))))
  obtain ⟨a1, a2, a3, a4, a5⟩ := n2 q
  have B := rI_c I (n - 1)
  have S := rI_y I c
  have P := rI_gd I (n - 1) a1
  refine ry_sz _ rfl hc hT ⟨rn_iy q n1 (by omega), nm_r (e' := ri_z ((fr c : Int) - sz (ty c) - 1 - fr (n - 1))) (by rw [rn_rA (by omega), rn_Ay q (by omega), ri_n, ri_n, ri_n, ri_sub, show (1 : Int32) = ri_z 1 from ri_n 1, ri_sub, ri_sub]) ⟨rn_iy q n1 (by omega), ?_⟩⟩
  refine ek_f (rn_e (rn_Ay q (by omega)) (b := 0) rfl (by omega) (by omega)) (fun q2 => ⟨rn_iy q n1 (by omega), pk_in c 32 hc, ?_⟩) (fun q2 => rb_q0 h (fun w => by have := (w.2 q).1; omega))
  rw [rn_Ay q (by omega), rn_rA (by omega)]
  refine ry_safe _ (by omega) (by omega) (by omega) ?_
  rw [rb_e rd_FoZ]
  exact rb_b (fun q3 => rb_q0 h (fun w => q3 (w.2 q).2)) (fun q3 => rb_q1 h ⟨fun w => by omega, fun _ => ⟨by omega, q3⟩⟩)
theorem ry_my (post : Int32 → SY → Prop) {c : Nat} {x : Int32} (hx : x = nI c) (I : (rq_L ln fm tt le li rk we op mk wd wn pc ph pa pe pt se ls mo tp ac sz dw st ty ed fr sp go tk en ch ps pg cf ct la gr cr ne nl oe ol fl tl tn N)) (hW : (rq_WY ln fm tt le li we op mk fa kn)) (hc : c < 32) (h2 : st c = 2) (H : ∀ kn fa, (rq_WY ln fm tt le li we op mk fa kn) → post (rb_ ((rq_may pg ch) N c ∧ (rq_wants ln fm tt mk tp ty ed fr sp go ps (fun x => sz (ty x))) ((rq_nx wn ed go) c) (rq_ot (ps c)) c ∧ (rq_room fr sp ps pg (fun x => sz (ty x))) (rq_ot (ps c)) c)) (nI kn, nI tn, th, rn_T ln, rn_A op, rn_A fm, rn_A tt, rn_A le, rn_A ln, rn_A li, rn_A rk, rn_A we, rn_A ca, rn_A mk, rn_A fa, rn_A tp, rn_A ac, rn_A sz, rn_A dw, rn_A st, rn_A ty, rn_A ed, rn_A la, rn_A fr, rn_A sp, rn_A go, rn_A nz, rn_A tk, rn_C ch, rn_A en, rn_A nw, rn_A gr, rn_A cr, rn_A ne, rn_A nl, rn_A oe, rn_A ol, rn_A fl, rn_A pc, rn_A ph, rn_A pa, rn_A se, rn_A ls, rn_A mo, rn_A tl, gp, fs)) : wpY_mayChange post (nI kn, nI tn, th, rn_T ln, rn_A op, rn_A fm, rn_A tt, rn_A le, rn_A ln, rn_A li, rn_A rk, rn_A we, rn_A ca, rn_A mk, rn_A fa, rn_A tp, rn_A ac, rn_A sz, rn_A dw, rn_A st, rn_A ty, rn_A ed, rn_A la, rn_A fr, rn_A sp, rn_A go, rn_A nz, rn_A tk, rn_C ch, rn_A en, rn_A nw, rn_A gr, rn_A cr, rn_A ne, rn_A nl, rn_A oe, rn_A ol, rn_A fl, rn_A pc, rn_A ph, rn_A pa, rn_A se, rn_A ls, rn_A mo, rn_A tl, gp, fs) x := by
  subst hx
  have A := rI_c I c
  obtain ⟨p1, p2⟩ := (rI_p I hc).2.2.2.1 h2
  have hl : la c ≤ 1 := by omega
  have o1 : rq_ot (ps c) = 2 * ed c + (1 - la c) + 1 := by rw [p1]; exact rq_otE hl
  have G := rI_gd I c hc
  have C := I.2.2.2.2.2
  have hT : ∀ c, ty c < 4 := fun c => (rI_c I c).2.1
  refine ⟨pk_in c 32 hc, nm_r (rn_rA (by omega)) ⟨pk_in c 32 hc, nm_r (e' := nI (1 - la c)) (by rw [rn_rA (by omega), show (1 : Int32) = nI 1 from rfl, pk_sub hl]) ⟨pk_in c 32 hc, ?_⟩⟩⟩
  refine ek_f (rn_e (rn_rA (by omega)) (b := 0) rfl (by omega) (by omega)) (fun q => ⟨pk_in c 32 hc, ?_⟩) (fun q => rb_q0 (H kn fa hW) (fun w => by have := w.1.1; omega))
  have v : rn_A tl 0 - rn_C ch (nI c).toNatClampNeg = ri_z ((N : Int) - (if ch c = 0 then -100 else (ch c : Int) - 1)) := by
    rw [rn_rC (by omega), rn_hz, show rn_A tl 0 = nI (tl 0) from rfl, C.1, ri_n, ri_sub]
  have pg0 : pg c = 0 := by omega
  refine ek_f (ri_t v (b := 5) (ri_n 5) (by split <;> omega) (by omega)) (fun q2 => rb_q0 (H kn fa hW) (fun w => ?_)) (fun q2 => ?_)
  · have := w.1.2
    split at q2 <;> omega
  · have may : (rq_may pg ch) N c := ⟨pg0, by split at q2 <;> omega⟩
    refine ry_wa _ rfl rfl I hW hc h2 (fun kn fa hW' => rb_b (fun q3 => rb_q0 (H kn fa hW') (fun w => q3 w.2.1)) (fun q3 => ⟨pk_in c 32 hc, ?_⟩))
    have h := H kn fa hW'
    rw [rb_e (Q := (rq_room fr sp ps pg (fun x => sz (ty x))) (rq_ot (ps c)) c) ⟨fun w => w.2.2, fun w => ⟨may, q3, w⟩⟩, rb_e rq_rE, o1] at h
    obtain ⟨m1, m2⟩ := rI_nr I (ed c) (1 - la c) (fr c) (by omega)
    refine ry_ab _ rfl rfl (rn_rA (by omega)) (by omega) (by omega) (by omega) (rI_on I) (rI_fr I) ?_
    generalize hm : (rd_nr ps fr) (2 * ed c + (1 - la c) + 1) (fr c) 32 = m at *
    refine ek_f (rn_yn (by omega)) (fun q4 => ry_m104 post I hc rfl (by omega) (by omega) (by omega) ?_) (fun q4 => ?_)
    · rw [rb_e (Q := (0 < m → rd_Fo (fr c) (sp c) (fr (m - 1)) (sp (m - 1)) (sz (ty (m - 1)))) ∧ rq_r2 sz ty fr sp pg (2 * ed c + (1 - la c) + 1) ((rd_nu ps fr) (2 * ed c + (1 - la c) + 1) (fr c) 32) c) ⟨fun w => ⟨fun v => by omega, w⟩, fun w => w.2⟩]
      exact h
    · obtain ⟨b1, b2, b3, b4, b5⟩ := m2 (by omega)
      have D := rI_c I (m - 1)
      have U := rI_y I (m - 1)
      refine ry_gp _ rfl (rn_ys (by omega)) hT hc b1 ⟨pk_in c 32 hc, rn_iy (by omega) m1 (by omega), ?_⟩
      rw [rn_Ay (by omega) (by omega), rn_rA (by omega)]
      refine ry_safe _ (by omega) (by omega) (by omega) ?_
      rw [rb_e rd_FoZ]
      refine rb_b (fun q5 => rb_q0 h (fun w => q5 (w.1 (by omega)))) (fun q5 => ry_m104 post I hc rfl (by omega) (by omega) (by omega) ?_)
      rw [rb_e (Q := (0 < m → rd_Fo (fr c) (sp c) (fr (m - 1)) (sp (m - 1)) (sz (ty (m - 1)))) ∧ rq_r2 sz ty fr sp pg (2 * ed c + (1 - la c) + 1) ((rd_nu ps fr) (2 * ed c + (1 - la c) + 1) (fr c) 32) c) ⟨fun w => ⟨fun _ => q5, w⟩, fun w => w.2⟩]
      exact h
end
