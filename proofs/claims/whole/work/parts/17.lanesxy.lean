/-! LANES: may, wants, room, X and Y -/
theorem rn_x1 : ∀ s, s < 32 → nI s ^^^ 1 = nI (rq_ot (s + 1) - 1) := by decide +kernel
theorem rb_p0 {post : Int32 → Prop} {P : Prop} (h : post (rb_ P)) (n : ¬ P) : post 0 := by rw [rb_f n] at h; exact h
theorem rb_p1 {post : Int32 → Prop} {P : Prop} (h : post (rb_ P)) (n : P) : post 1 := by rw [rb_t n] at h; exact h
section
variable {ln fm tt le li rk we op ca mk wd wn fa pc ph pa pe pt se ls mo tp ac sz dw st ty ed fr sp go nz tk en ch nw ps pg cf ct la gr cr ne nl oe ol fl tl : Nat → Nat} {tn kn N : Nat} {th : Int32} {gp fs : Nat → Int32}
/-- what stands nearest on a lane -/
theorem rI_nr (I : (rq_L ln fm tt le li rk we op mk wd wn pc ph pa pe pt se ls mo tp ac sz dw st ty ed fr sp go tk en ch ps pg cf ct la gr cr ne nl oe ol fl tl tn N)) (e l p : Nat) (hl : l ≤ 1) : (rd_nr ps fr) (2 * e + l + 1) p 32 ≤ 32 ∧ (0 < (rd_nr ps fr) (2 * e + l + 1) p 32 → (rd_nr ps fr) (2 * e + l + 1) p 32 - 1 < 32 ∧ st ((rd_nr ps fr) (2 * e + l + 1) p 32 - 1) = 2 ∧ ed ((rd_nr ps fr) (2 * e + l + 1) p 32 - 1) = e ∧ la ((rd_nr ps fr) (2 * e + l + 1) p 32 - 1) = l ∧ p < fr ((rd_nr ps fr) (2 * e + l + 1) p 32 - 1)) := by
  refine ⟨rd_nrL 32, fun h => ?_⟩
  rcases rd_nrS (ps := ps) (fr := fr) (s := 2 * e + l + 1) (p := p) 32 with ⟨k1, _⟩ | ⟨a, k1, k2, k3, k4, _⟩
  · omega
  · rw [k1]
    obtain ⟨a1, a2, a3⟩ := (rq_onI (rI_on I) k2 hl).mpr k3
    exact ⟨k2, a1, a2, a3, k4⟩
theorem rI_nu (I : (rq_L ln fm tt le li rk we op mk wd wn pc ph pa pe pt se ls mo tp ac sz dw st ty ed fr sp go tk en ch ps pg cf ct la gr cr ne nl oe ol fl tl tn N)) (e l p : Nat) (hl : l ≤ 1) : (rd_nu ps fr) (2 * e + l + 1) p 32 ≤ 32 ∧ (0 < (rd_nu ps fr) (2 * e + l + 1) p 32 → (rd_nu ps fr) (2 * e + l + 1) p 32 - 1 < 32 ∧ st ((rd_nu ps fr) (2 * e + l + 1) p 32 - 1) = 2 ∧ ed ((rd_nu ps fr) (2 * e + l + 1) p 32 - 1) = e ∧ la ((rd_nu ps fr) (2 * e + l + 1) p 32 - 1) = l ∧ fr ((rd_nu ps fr) (2 * e + l + 1) p 32 - 1) ≤ p) := by
  refine ⟨rd_nuL 32, fun h => ?_⟩
  rcases rd_nuS (ps := ps) (fr := fr) (s := 2 * e + l + 1) (p := p) 32 with ⟨k1, _⟩ | ⟨a, k1, k2, k3, k4, _⟩
  · omega
  · rw [k1]
    obtain ⟨a1, a2, a3⟩ := (rq_onI (rI_on I) k2 hl).mpr k3
    exact ⟨k2, a1, a2, a3, k4⟩
/-- the last part of wants; n the own lane's nearest, m the other's -/
def rq_w2 (tp sz ty ed fr sp go : Nat → Nat) (Q : Prop) (n m c : Nat) : Prop := 0 < n ∧ sp (n - 1) < tp (ty c) ∧ fr (n - 1) < sz (ty (n - 1)) + 1 + fr c + 20 ∧ (m = 0 ∨ fr (n - 1) + sz (ty (m - 1)) + 10 ≤ fr (m - 1) + sz (ty (n - 1))) ∧ (Q ∨ go c = ed c)
theorem rq_wE {n o c : Nat} : (rq_wants ln fm tt mk tp ty ed fr sp go ps (fun x => sz (ty x))) n o c ↔ (0 < n ∧ (rq_ld ln fm tt mk) (o - 1) (n - 1) ∧ ¬ (rq_ld ln fm tt mk) (ps c - 1) (n - 1)) ∨ rq_w2 tp sz ty ed fr sp go (0 < n ∧ (rq_ld ln fm tt mk) (o - 1) (n - 1)) ((rd_nr ps fr) (ps c) (fr c) 32) ((rd_nr ps fr) o (fr c) 32) c := by
  constructor
  · rintro (h | ⟨a, a1, a2, a3, a4, a5⟩)
    · exact Or.inl h
    · right
      refine ⟨by omega, ?_⟩
      rw [a1]
      exact ⟨a2, a3, a4, a5⟩
  · rintro (h | ⟨a1, a2⟩)
    · exact Or.inl h
    · right
      refine ⟨(rd_nr ps fr) (ps c) (fr c) 32 - 1, by omega, a2⟩
theorem rx_w44 (post : Int32 → Prop) {c e l : Nat} {Q : Prop} (I : (rq_L ln fm tt le li rk we op mk wd wn pc ph pa pe pt se ls mo tp ac sz dw st ty ed fr sp go tk en ch ps pg cf ct la gr cr ne nl oe ol fl tl tn N)) (hc : c < 32) (he : ed c = e) (hl : l ≤ 1) (h : post (rb_ (rq_w2 tp sz ty ed fr sp go Q ((rd_nr ps fr) (2 * e + l + 1) (fr c) 32) ((rd_nr ps fr) (2 * e + (1 - l) + 1) (fr c) 32) c))) : wX_wantsToChange_44 post (nI c) (nI (2 * e + l)) (nI (2 * e + (1 - l))) (rb_ Q) (nI tn) (rn_A ln) (rn_A fm) (rn_A tt) (rn_A le) (rn_A li) (rn_A rk) (rn_A we) (rn_A op) (rn_A ca) (rn_A mk) (rn_B wd) (rn_B wn) (rn_A pc) (rn_A ph) (rn_A pa) (rn_A pe) (rn_A pt) (rn_A tp) (rn_A ac) (rn_A sz) (rn_A dw) (rn_A st) (rn_A ty) (rn_A ed) (rn_B ps) (rn_A fr) (rn_A sp) (rn_A go) (rn_A nz) (rn_B pg) (rn_B cf) (rn_B ct) (rn_A tk) (rn_A en) (rn_B ch) (rn_A nw) (rn_A tl) := by
  have A := rI_c I c
  have T := rI_y I c
  obtain ⟨n1, n2⟩ := rI_nr I e l (fr c) hl
  obtain ⟨m1, m2⟩ := rI_nr I e (1 - l) (fr c) (by omega)
  generalize hn : (rd_nr ps fr) (2 * e + l + 1) (fr c) 32 = n at *
  generalize hm : (rd_nr ps fr) (2 * e + (1 - l) + 1) (fr c) 32 = m at *
  refine ⟨pk_in c 32 hc, rx_nb _ rfl (rn_rA (by omega)) (by omega) (by omega) (rI_ps I) (rI_fr I) ?_⟩
  rw [hn]
  refine ek_f (rn_c2 (by omega)) (fun q => rb_p0 h (fun w => by have := w.1; omega)) (fun q => ?_)
  obtain ⟨a1, a2, a3, a4, a5⟩ := n2 (by omega)
  have B := rI_c I (n - 1)
  have S := rI_y I (n - 1)
  refine ⟨rn_ic (by omega) n1 (by omega), pk_in c 32 hc, rn_iA (by omega) A.2.1 (by omega), ?_⟩
  refine pk_lt (sp (n - 1)) (tp (ty c)) (fun q2 => ?_) (fun q2 => rb_p0 h (fun w => by have := w.2.1; omega)) (rn_Ac (by omega) (by omega)) (rn_AA (by omega) (by omega))
  refine rx_gp _ rfl (rn_cs (by omega)) I hc a1 (by rw [a3, he]) ⟨pk_in c 32 hc, rx_nb _ rfl (rn_rA (by omega)) (by omega) (by omega) (rI_ps I) (rI_fr I) ?_⟩
  rw [hm]
  have fin : ∀ z : Int, (m = 0 → z = 1000) → (0 < m → z = (fr (m - 1) : Int) - sz (ty (m - 1)) - 1 - fr c) → -100000 < z ∧ z < 100000 → wX_wantsToChange_129 post (nI c) (rb_ Q) (ri_z ((fr (n - 1) : Int) - sz (ty (n - 1)) - 1 - fr c)) (ri_z z) (nI tn) (rn_A ln) (rn_A fm) (rn_A tt) (rn_A le) (rn_A li) (rn_A rk) (rn_A we) (rn_A op) (rn_A ca) (rn_A mk) (rn_B wd) (rn_B wn) (rn_A pc) (rn_A ph) (rn_A pa) (rn_A pe) (rn_A pt) (rn_A tp) (rn_A ac) (rn_A sz) (rn_A dw) (rn_A st) (rn_A ty) (rn_A ed) (rn_B ps) (rn_A fr) (rn_A sp) (rn_A go) (rn_A nz) (rn_B pg) (rn_B cf) (rn_B ct) (rn_A tk) (rn_A en) (rn_B ch) (rn_A nw) (rn_A tl) := by
    intro z z0 z1 zb
    refine ek_f (ri_l (ri_n 20) rfl (by omega) (by omega)) (fun k => rb_p0 h (fun w => by have := w.2.2.1; omega)) (fun k => ?_)
    refine ek_f (ri_t rfl (b := (fr (n - 1) : Int) - sz (ty (n - 1)) - 1 - fr c + 10) (by rw [show (10 : Int32) = ri_z 10 from ri_n 10, ri_add]) (by omega) (by omega)) (fun k2 => rb_p0 h (fun w => by have := w.2.2.2.1; omega)) (fun k2 => ?_)
    have mm : m = 0 ∨ fr (n - 1) + sz (ty (m - 1)) + 10 ≤ fr (m - 1) + sz (ty (n - 1)) := by omega
    refine rb_b (fun q3 => ⟨pk_in c 32 hc, pk_in c 32 hc, ?_⟩) (fun q3 => rb_p1 h ⟨by omega, q2, by omega, mm, Or.inl q3⟩)
    exact ek_f (rn_e (rn_rA (by omega)) (rn_rA (by omega)) (by omega) (by omega)) (fun q4 => rb_p1 h ⟨by omega, q2, by omega, mm, Or.inr q4⟩) (fun q4 => rb_p0 h (fun w => w.2.2.2.2.elim q3 q4))
  refine ek_f (rn_c2 (by omega)) (fun q3 => fin 1000 (fun _ => rfl) (fun w => by omega) (by omega)) (fun q3 => ?_)
  obtain ⟨b1, b2, b3, b4, b5⟩ := m2 (by omega)
  have D := rI_c I (m - 1)
  have U := rI_y I (m - 1)
  exact rx_gp _ rfl (rn_cs (by omega)) I hc b1 (by rw [b3, he]) (fin _ (fun w => by omega) (fun _ => rfl) (by omega))
theorem rx_wa (post : Int32 → Prop) {c : Nat} {x : Int32} (hx : x = nI c) (I : (rq_L ln fm tt le li rk we op mk wd wn pc ph pa pe pt se ls mo tp ac sz dw st ty ed fr sp go tk en ch ps pg cf ct la gr cr ne nl oe ol fl tl tn N)) (hc : c < 32) (h2 : st c = 2) (h : post (rb_ ((rq_wants ln fm tt mk tp ty ed fr sp go ps (fun x => sz (ty x))) ((rq_nx wn ed go) c) (rq_ot (ps c)) c))) : wpX_wantsToChange post (nI tn, rn_A ln, rn_A fm, rn_A tt, rn_A le, rn_A li, rn_A rk, rn_A we, rn_A op, rn_A ca, rn_A mk, rn_B wd, rn_B wn, rn_A pc, rn_A ph, rn_A pa, rn_A pe, rn_A pt, rn_A tp, rn_A ac, rn_A sz, rn_A dw, rn_A st, rn_A ty, rn_A ed, rn_B ps, rn_A fr, rn_A sp, rn_A go, rn_A nz, rn_B pg, rn_B cf, rn_B ct, rn_A tk, rn_A en, rn_B ch, rn_A nw, rn_A tl) x := by
  subst hx
  have A := rI_c I c
  obtain ⟨p1, p2⟩ := (rI_p I hc).2.2.2.1 h2
  have hl : la c ≤ 1 := by omega
  have o1 : rq_ot (ps c) = 2 * ed c + (1 - la c) + 1 := by rw [p1]; exact rq_otE hl
  obtain ⟨x1, x2⟩ := rI_nx I c
  rw [rb_e rq_wE] at h
  have ex : rn_c (ps c) ^^^ 1 = nI (2 * ed c + (1 - la c)) := by
    rw [p1]
    show nI (2 * ed c + la c) ^^^ 1 = _
    rw [rn_x1 _ (by omega), rq_otE hl]
    rfl
  refine ⟨pk_in c 32 hc, nm_r (e' := nI (2 * ed c + la c)) (by rw [rn_rB (by omega), p1]; rfl) (nm_r (e' := nI (2 * ed c + (1 - la c))) (by rw [p1] at ex; exact ex) ?_)⟩
  refine rx_nx _ rfl hc (rI_ed I) (fun c => (rI_c I c).2.2.2.1) ?_
  refine rx_ld _ rfl rfl I.1 (by omega) x1 ?_
  have s1 : rq_ot (ps c) - 1 = 2 * ed c + (1 - la c) := by omega
  have s2 : ps c - 1 = 2 * ed c + la c := by omega
  rw [s1, s2, o1] at h
  rw [show (rd_nr ps fr) (ps c) (fr c) 32 = (rd_nr ps fr) (2 * ed c + la c + 1) (fr c) 32 by rw [p1]] at h
  refine rb_b (fun q => rx_w44 post (Q := 0 < (rq_nx wn ed go) c ∧ (rq_ld ln fm tt mk) (2 * ed c + (1 - la c)) ((rq_nx wn ed go) c - 1)) I hc rfl hl ?_) (fun q => ?_)
  · rw [rb_e (Q := (0 < (rq_nx wn ed go) c ∧ (rq_ld ln fm tt mk) (2 * ed c + (1 - la c)) ((rq_nx wn ed go) c - 1) ∧ ¬ (rq_ld ln fm tt mk) (2 * ed c + la c) ((rq_nx wn ed go) c - 1)) ∨ rq_w2 tp sz ty ed fr sp go (0 < (rq_nx wn ed go) c ∧ (rq_ld ln fm tt mk) (2 * ed c + (1 - la c)) ((rq_nx wn ed go) c - 1)) ((rd_nr ps fr) (2 * ed c + la c + 1) (fr c) 32) ((rd_nr ps fr) (2 * ed c + (1 - la c) + 1) (fr c) 32) c) ⟨Or.inr, fun w => w.elim (fun v => absurd ⟨v.1, v.2.1⟩ q) id⟩]
    exact h
  · refine rx_ld _ rfl rfl I.1 (by omega) x1 ?_
    refine rb_b (fun q2 => rb_p1 h (Or.inl ⟨q.1, q.2, fun w => q2 ⟨q.1, w⟩⟩)) (fun q2 => rx_w44 post (Q := 0 < (rq_nx wn ed go) c ∧ (rq_ld ln fm tt mk) (2 * ed c + (1 - la c)) ((rq_nx wn ed go) c - 1)) I hc rfl hl ?_)
    rw [rb_e (Q := (0 < (rq_nx wn ed go) c ∧ (rq_ld ln fm tt mk) (2 * ed c + (1 - la c)) ((rq_nx wn ed go) c - 1) ∧ ¬ (rq_ld ln fm tt mk) (2 * ed c + la c) ((rq_nx wn ed go) c - 1)) ∨ rq_w2 tp sz ty ed fr sp go (0 < (rq_nx wn ed go) c ∧ (rq_ld ln fm tt mk) (2 * ed c + (1 - la c)) ((rq_nx wn ed go) c - 1)) ((rd_nr ps fr) (2 * ed c + la c + 1) (fr c) 32) ((rd_nr ps fr) (2 * ed c + (1 - la c) + 1) (fr c) 32) c) ⟨Or.inr, fun w => w.elim (fun v => absurd q2.2 v.2.2) id⟩]
    exact h
end
