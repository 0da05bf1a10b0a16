/-! lane -/
section
variable {ln fm tt le li rk we op ca mk wd wn fa pc ph pa pe pt se ls mo tp ac sz dw st ty ed fr sp go nz tk en ch nw ps pg cf ct la gr cr ne nl oe ol fl tl : Nat → Nat} {tn kn N : Nat} {th : Int32} {gp fs : Nat → Int32}
theorem rx_ln (post : Int32 → Prop) {s k n : Nat} (I : (rq_I ln fm tt le li rk we op mk wd wn pc ph pa pe pt se ls mo tp ac sz dw st ty ed fr sp go tk en ch ps pg cf ct la gr cr ne nl oe ol fl tl tn N)) (hs : s < 32) (hk : k < 32) (hK : rd_Kth ps fr (s + 1) k n) (h : post (rn_c n)) : ∃ m, wX_lane_32 post (nI k) (nI s) (nI tn) (rn_A ln) (rn_A fm) (rn_A tt) (rn_A le) (rn_A li) (rn_A rk) (rn_A we) (rn_A op) (rn_A ca) (rn_A mk) (rn_B wd) (rn_B wn) (rn_A pc) (rn_A ph) (rn_A pa) (rn_A pe) (rn_A pt) (rn_A tp) (rn_A ac) (rn_A sz) (rn_A dw) (rn_A st) (rn_A ty) (rn_A ed) (rn_B ps) (rn_A fr) (rn_A sp) (rn_A go) (rn_A nz) (rn_B pg) (rn_B cf) (rn_B ct) (rn_A tk) (rn_A en) (rn_B ch) (rn_A nw) (rn_A tl) m 0 := by
  refine loop_0 (fun m i (_ : Unit) => wX_lane_32 post (nI k) (nI s) (nI tn) (rn_A ln) (rn_A fm) (rn_A tt) (rn_A le) (rn_A li) (rn_A rk) (rn_A we) (rn_A op) (rn_A ca) (rn_A mk) (rn_B wd) (rn_B wn) (rn_A pc) (rn_A ph) (rn_A pa) (rn_A pe) (rn_A pt) (rn_A tp) (rn_A ac) (rn_A sz) (rn_A dw) (rn_A st) (rn_A ty) (rn_A ed) (rn_B ps) (rn_A fr) (rn_A sp) (rn_A go) (rn_A nz) (rn_B pg) (rn_B cf) (rn_B ct) (rn_A tk) (rn_A en) (rn_B ch) (rn_A nw) (rn_A tl) m (nI i)) (fun i _ => ∀ c, c < i → ¬ (ps c = s + 1 ∧ rd_cb ps fr (s + 1) (fr c) 32 = k)) 32 () (fun c hc => absurd hc (Nat.not_lt_zero c)) ?_ ?_
  · intro m _ e
    rcases hK with ⟨k0, _⟩ | ⟨c, k0, k1, k2, k3⟩
    · subst k0; exact br_t (by decide) h
    · exact absurd ⟨k2, k3⟩ (e c k1)
  · intro m i _ hi e ih
    have P := rI_ps I.1 i hi
    have F := rI_fr I.1 i
    have L := rd_cbL (ps := ps) (fr := fr) (s := s + 1) (p := fr i) 32
    refine pk_le 32 i (fun z => by omega) (fun _ => ⟨pk_in i 32 hi, ?_⟩)
    refine ek_f (rn_2 (rn_rB (by omega)) (b := s + 1) rfl (by omega) (by omega)) (fun e1 => ⟨pk_in i 32 hi, rx_cb _ rfl (rn_rA (by omega)) (by omega) (by omega) (rI_ps I.1) (rI_fr I.1) ?_⟩) (fun e1 => nm_r (nI_1 i) (ih () (lt_s e (fun w => e1 w.1))))
    refine ek_f (rn_e rfl rfl (by omega) (by omega)) (fun e2 => ?_) (fun e2 => nm_r (nI_1 i) (ih () (lt_s e (fun w => e2 w.2))))
    have := rd_KthU I.2.1 (by omega) hK (Or.inr ⟨i, rfl, hi, e1, e2⟩)
    subst this
    exact h
theorem rI_pos1 (I : (rq_I ln fm tt le li rk we op mk wd wn pc ph pa pe pt se ls mo tp ac sz dw st ty ed fr sp go tk en ch ps pg cf ct la gr cr ne nl oe ol fl tl tn N)) {a s : Nat} (ha : a < 32) (hs : 0 < s) (h : ps a = s) : 1 ≤ fr a := ((I.2.2.2.2.2.2 a ha).1 (by omega)).1
theorem ry_l50 (post : Int32 → Prop) {e l k n : Nat} (I : (rq_I ln fm tt le li rk we op mk wd wn pc ph pa pe pt se ls mo tp ac sz dw st ty ed fr sp go tk en ch ps pg cf ct la gr cr ne nl oe ol fl tl tn N)) (he : e < 16) (hl : l ≤ 1) (hk : k < 2147483648) (hK : rd_Kth ps fr (2 * e + l + 1) k n) (h : post (rn_c n)) : ∀ m i p, p ≤ 1000 → rd_cb ps fr (2 * e + l + 1) p 32 = i → i ≤ k → 33 - i < m → wY_lane_50 post (nI e) (nI l) (nI k) (nI kn) (nI tn) th (rn_T ln) (rn_A op) (rn_A fm) (rn_A tt) (rn_A le) (rn_A ln) (rn_A li) (rn_A rk) (rn_A we) (rn_A ca) (rn_A mk) (rn_A fa) (rn_A tp) (rn_A ac) (rn_A sz) (rn_A dw) (rn_A st) (rn_A ty) (rn_A ed) (rn_A la) (rn_A fr) (rn_A sp) (rn_A go) (rn_A nz) (rn_A tk) (rn_C ch) (rn_A en) (rn_A nw) (rn_A gr) (rn_A cr) (rn_A ne) (rn_A nl) (rn_A oe) (rn_A ol) (rn_A fl) (rn_A pc) (rn_A ph) (rn_A pa) (rn_A se) (rn_A ls) (rn_A mo) (rn_A tl) gp fs m (rn_y ((rd_nu ps fr) (2 * e + l + 1) p 32)) (nI i) := by
  intro m
  induction m with
  | zero => intro i p _ _ _ h; omega
  | succ m ih =>
    intro i p hp hi hik hm
    have L := rd_cbL (ps := ps) (fr := fr) (s := 2 * e + l + 1) (p := p) 32
    have L2 := rd_nuL (ps := ps) (fr := fr) (s := 2 * e + l + 1) (p := p) 32
    have s89n : (rd_nu ps fr) (2 * e + l + 1) p 32 = 0 → wY_lane_89 post (rn_y ((rd_nu ps fr) (2 * e + l + 1) p 32)) (nI kn) (nI tn) th (rn_T ln) (rn_A op) (rn_A fm) (rn_A tt) (rn_A le) (rn_A ln) (rn_A li) (rn_A rk) (rn_A we) (rn_A ca) (rn_A mk) (rn_A fa) (rn_A tp) (rn_A ac) (rn_A sz) (rn_A dw) (rn_A st) (rn_A ty) (rn_A ed) (rn_A la) (rn_A fr) (rn_A sp) (rn_A go) (rn_A nz) (rn_A tk) (rn_C ch) (rn_A en) (rn_A nw) (rn_A gr) (rn_A cr) (rn_A ne) (rn_A nl) (rn_A oe) (rn_A ol) (rn_A fl) (rn_A pc) (rn_A ph) (rn_A pa) (rn_A se) (rn_A ls) (rn_A mo) (rn_A tl) gp fs := by
      intro z
      have u := rd_KthU I.2.1 (by omega) hK (rd_KthN (by omega) hi hik z)
      rw [u] at h
      rw [z]
      exact br_f (by decide) h
    rcases Nat.eq_zero_or_pos ((rd_nu ps fr) (2 * e + l + 1) p 32) with z | z
    · exact br_c (fun _ => s89n z) (fun _ => br_t ((rn_yn (by omega)).mpr z) (s89n z))
    · obtain ⟨a, ha⟩ : ∃ a, (rd_nu ps fr) (2 * e + l + 1) p 32 = a + 1 := ⟨(rd_nu ps fr) (2 * e + l + 1) p 32 - 1, by omega⟩
      obtain ⟨a1, a2, a3, a4, a5⟩ := rd_KthS I.2.1 (by omega) hi ha
      have f1 := rI_pos1 I a1 (by omega) a2
      have F := rI_fr I.1 a
      rw [ha]
      refine pk_le k i (fun q => ?_) (fun q => br_f (nI_pos (n := a) (by omega)) ⟨pk_in a 32 a1, nm_r (e' := nI (fr a - 1)) ?_ ?_⟩)
      · have ek : i = k := by omega
        have u := rd_KthU I.2.1 (by omega) hK (Or.inr ⟨a, rfl, a1, a2, by omega⟩)
        rw [u] at h
        exact br_t (nI_pos' (n := a) (by omega)) h
      · have r1 : rn_A fr (rn_y (a + 1)).toNatClampNeg = nI (fr a) := rn_rA (by omega)
        rw [r1, show (1 : Int32) = nI 1 from rfl, pk_sub f1]
      · refine ry_nu _ rfl rfl rfl (by omega) hl (by omega) (rI_on I.1) (rI_fr I.1) (fun j hj w => ?_) (nm_r (nI_1 i) (ih (i + 1) (fr a - 1) (by omega) (a5 f1) (by omega) (by omega)))
        have : ¬ nI j < 0 := nI_pos (by omega)
        rw [w] at this
        exact absurd (by decide) this
/-- there is an answer -/
theorem rl_kth (I : (rq_I ln fm tt le li rk we op mk wd wn pc ph pa pe pt se ls mo tp ac sz dw st ty ed fr sp go tk en ch ps pg cf ct la gr cr ne nl oe ol fl tl tn N)) {s k : Nat} : ∃ n, rd_Kth ps fr s k n := by
  rcases Classical.em (∃ c, c < 32 ∧ ps c = s ∧ rd_cb ps fr s (fr c) 32 = k) with ⟨c, c1, c2, c3⟩ | h
  · exact ⟨c + 1, Or.inr ⟨c, rfl, c1, c2, c3⟩⟩
  · exact ⟨0, Or.inl ⟨rfl, fun c c1 c2 c3 => h ⟨c, c1, c2, c3⟩⟩⟩
theorem rl_kbig (I : (rq_I ln fm tt le li rk we op mk wd wn pc ph pa pe pt se ls mo tp ac sz dw st ty ed fr sp go tk en ch ps pg cf ct la gr cr ne nl oe ol fl tl tn N)) {s k n : Nat} (s0 : 0 < s) (hk : 32 ≤ k) (h : rd_Kth ps fr s k n) : n = 0 := by
  rcases h with ⟨k0, _⟩ | ⟨c, k0, k1, k2, k3⟩
  · exact k0
  · exfalso
    have f1 := rI_pos1 I k1 s0 k2
    have := rd_cbS (ps := ps) (fr := fr) (s := s) (p := fr c) (p' := 0) (by omega) k2 (Nat.lt_irrefl _) (by omega) k1
    have := rd_cbL (ps := ps) (fr := fr) (s := s) (p := 0) 32
    omega
end
theorem i_vc_lane {k : Nat} {u : SX} {v : SY} (I : i_Rel k u v) (hk : k + 5 ≤ 2560) (v1 : Int32) (v2 : Int32) (v3 : Int32) : wpX_lane (fun r => wpY_lane (fun r' => r' = r ∧ i_Rel (k + 5) u v) v v1 v2 v3) u v1 v2 v3 := by
  obtain ⟨ln, fm, tt, le, li, rk, we, op, ca, mk, wd, wn, fa, pc, ph, pa, pe, pt, se, ls, mo, tp, ac, sz, dw, st, ty, ed, fr, sp, go, nz, tk, en, ch, nw, ps, pg, cf, ct, la, gr, cr, ne, nl, oe, ol, fl, tl, tn, kn, N, th, gp, fs, rfl, rfl, I, hW, hN, hT⟩ := I
  have R0 : i_Rel (k + 5) (nI tn, rn_A ln, rn_A fm, rn_A tt, rn_A le, rn_A li, rn_A rk, rn_A we, rn_A op, rn_A ca, rn_A mk, rn_B wd, rn_B wn, rn_A pc, rn_A ph, rn_A pa, rn_A pe, rn_A pt, rn_A tp, rn_A ac, rn_A sz, rn_A dw, rn_A st, rn_A ty, rn_A ed, rn_B ps, rn_A fr, rn_A sp, rn_A go, rn_A nz, rn_B pg, rn_B cf, rn_B ct, rn_A tk, rn_A en, rn_B ch, rn_A nw, rn_A tl) (nI kn, nI tn, th, rn_T ln, rn_A op, rn_A fm, rn_A tt, rn_A le, rn_A ln, rn_A li, rn_A rk, rn_A we, rn_A ca, rn_A mk, rn_A fa, rn_A tp, rn_A ac, rn_A sz, rn_A dw, rn_A st, rn_A ty, rn_A ed, rn_A la, rn_A fr, rn_A sp, rn_A go, rn_A nz, rn_A tk, rn_C ch, rn_A en, rn_A nw, rn_A gr, rn_A cr, rn_A ne, rn_A nl, rn_A oe, rn_A ol, rn_A fl, rn_A pc, rn_A ph, rn_A pa, rn_A se, rn_A ls, rn_A mo, rn_A tl, gp, fs) := rl_rel I hW (by omega) (by omega)
  have hl : ∀ e, ln e ≤ 2 := fun e => (rI_e I.1 e).1
  rcases Classical.em (rq_la ln v1 v2 ∧ ¬ v3 < 0) with ⟨⟨e, l, he, rfl, rfl, hle⟩, h3⟩ | hn
  · obtain ⟨m, hm, rfl⟩ := nI_of h3
    have B := hl e
    have l1 : l ≤ 1 := by omega
    obtain ⟨n, hK⟩ := rl_kth I (s := 2 * e + l + 1) (k := m)
    have ya : ∀ post : Int32 → Prop, post (rn_c n) → wpY_lane post (nI kn, nI tn, th, rn_T ln, rn_A op, rn_A fm, rn_A tt, rn_A le, rn_A ln, rn_A li, rn_A rk, rn_A we, rn_A ca, rn_A mk, rn_A fa, rn_A tp, rn_A ac, rn_A sz, rn_A dw, rn_A st, rn_A ty, rn_A ed, rn_A la, rn_A fr, rn_A sp, rn_A go, rn_A nz, rn_A tk, rn_C ch, rn_A en, rn_A nw, rn_A gr, rn_A cr, rn_A ne, rn_A nl, rn_A oe, rn_A ol, rn_A fl, rn_A pc, rn_A ph, rn_A pa, rn_A se, rn_A ls, rn_A mo, rn_A tl, gp, fs) (nI e) (nI l) (nI m) := by
      intro post h
      unfold wpY_lane
      refine ry_ie _ _ (rb_b (fun w => absurd ⟨e, he, rfl, by omega⟩ w) (fun _ => ⟨pk_in e 16 he, ?_⟩))
      rw [rn_rA (by omega), show (1 : Int32) = nI 1 from rfl, pk_sub (by omega)]
      refine ry_in _ _ _ _ (rb_b (fun w => absurd ⟨nI_pos (by omega), nI_nlt (b := l) (by omega) (by omega)⟩ w) (fun _ => br_t (nI_pos' hm) ?_))
      refine ry_nu _ rfl rfl (p := 1000) rfl (by omega) l1 (by omega) (rI_on I.1) (rI_fr I.1) (fun j hj w => ?_) ⟨35, ry_l50 post I he l1 hm hK h 35 0 1000 (by omega) (rd_cb0 (fun a _ _ => by have := rI_fr I.1 a; omega)) (by omega) (by omega)⟩
      have : ¬ nI j < 0 := nI_pos (by omega)
      rw [w] at this
      exact absurd (by decide) this
    unfold wpX_lane
    refine rx_il _ _ _ hl (rb_b (fun w => absurd ⟨e, l, he, rfl, rfl, hle⟩ w) (fun _ => br_f (nI_pos hm) (pk_lt m 32 (fun z => nm_r (e' := nI (2 * e + l)) (by rw [show (2 : Int32) * nI e = nI (2 * e) from pk_mul 2 _, nI_add]) (rx_ln _ I (by omega) z hK (ya _ ⟨rfl, R0⟩))) (fun z => ?_))))
    have n0 := rl_kbig I (by omega) z hK
    have := ya (fun r' => r' = -2 ∧ i_Rel (k + 5) (nI tn, rn_A ln, rn_A fm, rn_A tt, rn_A le, rn_A li, rn_A rk, rn_A we, rn_A op, rn_A ca, rn_A mk, rn_B wd, rn_B wn, rn_A pc, rn_A ph, rn_A pa, rn_A pe, rn_A pt, rn_A tp, rn_A ac, rn_A sz, rn_A dw, rn_A st, rn_A ty, rn_A ed, rn_B ps, rn_A fr, rn_A sp, rn_A go, rn_A nz, rn_B pg, rn_B cf, rn_B ct, rn_A tk, rn_A en, rn_B ch, rn_A nw, rn_A tl) (nI kn, nI tn, th, rn_T ln, rn_A op, rn_A fm, rn_A tt, rn_A le, rn_A ln, rn_A li, rn_A rk, rn_A we, rn_A ca, rn_A mk, rn_A fa, rn_A tp, rn_A ac, rn_A sz, rn_A dw, rn_A st, rn_A ty, rn_A ed, rn_A la, rn_A fr, rn_A sp, rn_A go, rn_A nz, rn_A tk, rn_C ch, rn_A en, rn_A nw, rn_A gr, rn_A cr, rn_A ne, rn_A nl, rn_A oe, rn_A ol, rn_A fl, rn_A pc, rn_A ph, rn_A pa, rn_A se, rn_A ls, rn_A mo, rn_A tl, gp, fs)) (by rw [n0]; exact ⟨rfl, R0⟩)
    exact this
  · have yr : wpY_lane (fun r' => r' = -2 ∧ i_Rel (k + 5) (nI tn, rn_A ln, rn_A fm, rn_A tt, rn_A le, rn_A li, rn_A rk, rn_A we, rn_A op, rn_A ca, rn_A mk, rn_B wd, rn_B wn, rn_A pc, rn_A ph, rn_A pa, rn_A pe, rn_A pt, rn_A tp, rn_A ac, rn_A sz, rn_A dw, rn_A st, rn_A ty, rn_A ed, rn_B ps, rn_A fr, rn_A sp, rn_A go, rn_A nz, rn_B pg, rn_B cf, rn_B ct, rn_A tk, rn_A en, rn_B ch, rn_A nw, rn_A tl) (nI kn, nI tn, th, rn_T ln, rn_A op, rn_A fm, rn_A tt, rn_A le, rn_A ln, rn_A li, rn_A rk, rn_A we, rn_A ca, rn_A mk, rn_A fa, rn_A tp, rn_A ac, rn_A sz, rn_A dw, rn_A st, rn_A ty, rn_A ed, rn_A la, rn_A fr, rn_A sp, rn_A go, rn_A nz, rn_A tk, rn_C ch, rn_A en, rn_A nw, rn_A gr, rn_A cr, rn_A ne, rn_A nl, rn_A oe, rn_A ol, rn_A fl, rn_A pc, rn_A ph, rn_A pa, rn_A se, rn_A ls, rn_A mo, rn_A tl, gp, fs)) (nI kn, nI tn, th, rn_T ln, rn_A op, rn_A fm, rn_A tt, rn_A le, rn_A ln, rn_A li, rn_A rk, rn_A we, rn_A ca, rn_A mk, rn_A fa, rn_A tp, rn_A ac, rn_A sz, rn_A dw, rn_A st, rn_A ty, rn_A ed, rn_A la, rn_A fr, rn_A sp, rn_A go, rn_A nz, rn_A tk, rn_C ch, rn_A en, rn_A nw, rn_A gr, rn_A cr, rn_A ne, rn_A nl, rn_A oe, rn_A ol, rn_A fl, rn_A pc, rn_A ph, rn_A pa, rn_A se, rn_A ls, rn_A mo, rn_A tl, gp, fs) v1 v2 v3 := by
      unfold wpY_lane
      refine ry_ie _ _ (rb_b (fun _ => ⟨rfl, R0⟩) (fun ⟨e, he, q, hte⟩ => ?_))
      subst q
      have B := hl e
      refine ⟨pk_in e 16 he, ?_⟩
      rw [rn_rA (by omega), show (1 : Int32) = nI 1 from rfl, pk_sub (by omega)]
      refine ry_in _ _ _ _ (rb_b (fun _ => ⟨rfl, R0⟩) (fun w => br_c (fun w2 => ?_) (fun _ => ⟨rfl, R0⟩)))
      obtain ⟨l, q1, _, h1⟩ := rn_rg (a := 0) (b := ln e - 1) (by omega) (by omega) w.1 w.2
      exact absurd ⟨⟨e, l, he, rfl, q1, by omega⟩, Int32.not_lt.mpr w2⟩ hn
    unfold wpX_lane
    exact rx_il _ _ _ hl (rb_b (fun _ => yr) (fun w => br_c (fun _ => yr) (fun k0 => absurd ⟨w, k0⟩ hn)))
