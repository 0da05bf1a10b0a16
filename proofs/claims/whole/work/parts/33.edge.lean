/-! edge, connect, weight -/
theorem rn_rg {x : Int32} {a b : Nat} (ha : a < 2147483648) (hb : b < 2147483648) (h1 : ¬ x < nI a) (h2 : ¬ nI b < x) : ∃ L, x = nI L ∧ a ≤ L ∧ L ≤ b := by
  rw [Int32.lt_iff_toInt_lt] at h1 h2
  rw [nI_toInt hb] at h2
  rw [nI_toInt ha] at h1
  have e : x = nI x.toInt.toNat := by
    apply Int32.toInt_inj.mp
    rw [nI_toInt (by omega)]
    omega
  exact ⟨x.toInt.toNat, e, by omega, by omega⟩
theorem rn_nl {a b : Nat} (ha : a < 2 ^ 31) (hb : b < 2 ^ 31) (h : ¬ nI a < nI b) : b ≤ a := by
  rw [nI_ltI ha hb] at h
  omega
def ra_edge (st : Nat → Nat) (p0 p1 p2 p3 : Int32) : Prop := ∃ e n L s : Nat, p0 = nI e ∧ e < 16 ∧ p1 = nI n ∧ n < 64 ∧ p2 = nI L ∧ 20 ≤ L ∧ L ≤ 200 ∧ p3 = nI s ∧ s < 256 ∧ n / 8 ≠ n % 8 ∧ 1 ≤ s % 4 ∧ s % 4 ≤ 2 ∧ 1 ≤ s / 4 % 16 ∧ s / 4 % 16 ≤ 12 ∧ ¬ ∃ c, c < 32 ∧ st c ≠ 0
section
variable {ln fm tt le li rk we op ca mk wd wn fa pc ph pa pe pt se ls mo tp ac sz dw st ty ed fr sp go nz tk en ch nw ps pg cf ct la gr cr ne nl oe ol fl tl : Nat → Nat} {tn kn N : Nat} {th : Int32} {gp fs : Nat → Int32}
theorem ra_edgeB {p1 p3 : Int32} {n s : Nat} (h1 : p1 = nI n) (hn : n < 64) (h3 : p3 = nI s) (hs : s < 256) : p1 / 8 = nI (n / 8) ∧ p1 - p1 / 8 * 8 = nI (n % 8) ∧ p3 - p3 / 4 * 4 = nI (s % 4) ∧ p3 / 4 - p3 / 4 / 16 * 16 = nI (s / 4 % 16) ∧ p3 / 64 = nI (s / 64) := by
  subst h1 h3
  have e4 : nI s / 4 = nI (s / 4) := pk_div (d := 4) (by omega) (by omega) (by omega)
  refine ⟨pk_div (d := 8) (by omega) (by omega) (by omega), pk_rem (d := 8) (by omega) (by omega) (by omega), pk_rem (d := 4) (by omega) (by omega) (by omega), ?_, pk_div (d := 64) (by omega) (by omega) (by omega)⟩
  rw [e4]
  exact pk_rem (d := 16) (by omega) (by omega) (by omega)
theorem rx_edgeN (post : Int32 → SX → Prop) {p0 p1 p2 p3 : Int32} (I : (rq_L ln fm tt le li rk we op mk wd wn pc ph pa pe pt se ls mo tp ac sz dw st ty ed fr sp go tk en ch ps pg cf ct la gr cr ne nl oe ol fl tl tn N)) (hn : ¬ ra_edge st p0 p1 p2 p3) (h : post 0 (nI tn, rn_A ln, rn_A fm, rn_A tt, rn_A le, rn_A li, rn_A rk, rn_A we, rn_A op, rn_A ca, rn_A mk, rn_B wd, rn_B wn, rn_A pc, rn_A ph, rn_A pa, rn_A pe, rn_A pt, rn_A tp, rn_A ac, rn_A sz, rn_A dw, rn_A st, rn_A ty, rn_A ed, rn_B ps, rn_A fr, rn_A sp, rn_A go, rn_A nz, rn_B pg, rn_B cf, rn_B ct, rn_A tk, rn_A en, rn_B ch, rn_A nw, rn_A tl)) : wpX_edge post (nI tn, rn_A ln, rn_A fm, rn_A tt, rn_A le, rn_A li, rn_A rk, rn_A we, rn_A op, rn_A ca, rn_A mk, rn_B wd, rn_B wn, rn_A pc, rn_A ph, rn_A pa, rn_A pe, rn_A pt, rn_A tp, rn_A ac, rn_A sz, rn_A dw, rn_A st, rn_A ty, rn_A ed, rn_B ps, rn_A fr, rn_A sp, rn_A go, rn_A nz, rn_B pg, rn_B cf, rn_B ct, rn_A tk, rn_A en, rn_B ch, rn_A nw, rn_A tl) p0 p1 p2 p3 := by
  refine br_c (fun _ => h) (fun k0 => br_c (fun _ => h) (fun k1 => br_c (fun _ => h) (fun k2 => br_c (fun _ => h) (fun k3 => br_c (fun _ => h) (fun k4 => br_c (fun k5 => ⟨by decide, fun x5 e5 => ⟨by decide, fun x6 e6 => ⟨by decide, fun x7 e7 => ⟨by decide, by decide, fun x8 e8 => ?_⟩⟩⟩⟩) (fun _ => h))))))
  refine br_c (fun _ => h) (fun k6 => br_c (fun _ => h) (fun k7 => br_c (fun _ => h) (fun k8 => br_c (fun _ => h) (fun k9 => br_c (fun _ => h) (fun k10 => br_c (fun _ => h) (fun k11 => br_c (fun k12 => ?_) (fun _ => h)))))))
  refine rx_any _ (rI_st I) (rb_b (fun k13 => ?_) (fun _ => h))
  exfalso
  obtain ⟨e, he, q0⟩ := rn_16 (M := 16) (by omega) k0 k1
  obtain ⟨n, hn1, q1⟩ := rn_16 (M := 64) (by omega) k2 k3
  obtain ⟨L, q2, hL, hL2⟩ := rn_rg (a := 20) (b := 200) (by omega) (by omega) k4 (Int32.not_lt.mpr k5)
  obtain ⟨s, hs, q3⟩ := rn_16 (M := 256) (by omega) k7 k8
  obtain ⟨b1, b2, b3, b4, b5⟩ := ra_edgeB q1 hn1 q3 hs
  rw [e5, e6, b2, b1, nI_eq (by omega) (by omega)] at k6
  rw [e7, b3] at k9 k10
  rw [e8, b4] at k11 k12
  have k9' := rn_nl (a := s % 4) (b := 1) (by omega) (by omega) k9
  have k10' := rn_nl (a := 2) (b := s % 4) (by omega) (by omega) k10
  have k11' := rn_nl (a := s / 4 % 16) (b := 1) (by omega) (by omega) k11
  have k12' := (nI_leI (a := s / 4 % 16) (b := 12) (by omega) (by omega)).mp k12
  exact hn ⟨e, n, L, s, q0, he, q1, hn1, q2, hL, hL2, q3, hs, k6, by omega, by omega, by omega, k12', k13⟩
theorem ry_edgeN (post : Int32 → SY → Prop) {p0 p1 p2 p3 : Int32} (I : (rq_L ln fm tt le li rk we op mk wd wn pc ph pa pe pt se ls mo tp ac sz dw st ty ed fr sp go tk en ch ps pg cf ct la gr cr ne nl oe ol fl tl tn N)) (hn : ¬ ra_edge st p0 p1 p2 p3) (h : post 0 (nI kn, nI tn, th, rn_T ln, rn_A op, rn_A fm, rn_A tt, rn_A le, rn_A ln, rn_A li, rn_A rk, rn_A we, rn_A ca, rn_A mk, rn_A fa, rn_A tp, rn_A ac, rn_A sz, rn_A dw, rn_A st, rn_A ty, rn_A ed, rn_A la, rn_A fr, rn_A sp, rn_A go, rn_A nz, rn_A tk, rn_C ch, rn_A en, rn_A nw, rn_A gr, rn_A cr, rn_A ne, rn_A nl, rn_A oe, rn_A ol, rn_A fl, rn_A pc, rn_A ph, rn_A pa, rn_A se, rn_A ls, rn_A mo, rn_A tl, gp, fs)) : wpY_edge post (nI kn, nI tn, th, rn_T ln, rn_A op, rn_A fm, rn_A tt, rn_A le, rn_A ln, rn_A li, rn_A rk, rn_A we, rn_A ca, rn_A mk, rn_A fa, rn_A tp, rn_A ac, rn_A sz, rn_A dw, rn_A st, rn_A ty, rn_A ed, rn_A la, rn_A fr, rn_A sp, rn_A go, rn_A nz, rn_A tk, rn_C ch, rn_A en, rn_A nw, rn_A gr, rn_A cr, rn_A ne, rn_A nl, rn_A oe, rn_A ol, rn_A fl, rn_A pc, rn_A ph, rn_A pa, rn_A se, rn_A ls, rn_A mo, rn_A tl, gp, fs) p0 p1 p2 p3 := by
  refine ⟨by decide, fun x5 e5 => ⟨by decide, by decide, fun x6 e6 => ?_⟩⟩
  refine ry_in _ _ _ _ (rb_b (fun _ => h) (fun k0 => ?_))
  refine ry_in _ _ _ _ (rb_b (fun _ => h) (fun k1 => ?_))
  refine ⟨by decide, by decide, br_c (fun _ => h) (fun k2 => ?_)⟩
  refine ry_in _ _ _ _ (rb_b (fun _ => h) (fun k3 => ?_))
  refine ry_in _ _ _ _ (rb_b (fun _ => h) (fun k4 => ?_))
  refine ry_in _ _ _ _ (rb_b (fun _ => h) (fun k5 => ?_))
  refine ry_in _ _ _ _ (rb_b (fun _ => h) (fun k6 => ?_))
  refine ry_no _ (rI_st I) (rb_b (fun _ => h) (fun k7 => ?_))
  exfalso
  obtain ⟨e, q0, _, he⟩ := rn_rg (a := 0) (b := 15) (by omega) (by omega) k0.1 k0.2
  obtain ⟨n, q1, _, hn1⟩ := rn_rg (a := 0) (b := 63) (by omega) (by omega) k1.1 k1.2
  obtain ⟨L, q2, hL, hL2⟩ := rn_rg (a := 20) (b := 200) (by omega) (by omega) k3.1 k3.2
  obtain ⟨s, q3, _, hs⟩ := rn_rg (a := 0) (b := 255) (by omega) (by omega) k4.1 k4.2
  obtain ⟨b1, b2, b3, b4, b5⟩ := ra_edgeB q1 (by omega) q3 (by omega)
  rw [b2, b1, nI_eq (by omega) (by omega)] at k2
  rw [e5, b3] at k5
  rw [e6, b4] at k6
  have k9' := rn_nl (a := s % 4) (b := 1) (by omega) (by omega) k5.1
  have k10' := rn_nl (a := 2) (b := s % 4) (by omega) (by omega) k5.2
  have k11' := rn_nl (a := s / 4 % 16) (b := 1) (by omega) (by omega) k6.1
  have k12' := rn_nl (a := 12) (b := s / 4 % 16) (by omega) (by omega) k6.2
  exact hn ⟨e, n, L, s, q0, by omega, q1, by omega, q2, hL, hL2, q3, by omega, k2, by omega, by omega, by omega, by omega, k7⟩
theorem rx_edgeA (post : Int32 → SX → Prop) {e n L s : Nat} (I : (rq_L ln fm tt le li rk we op mk wd wn pc ph pa pe pt se ls mo tp ac sz dw st ty ed fr sp go tk en ch ps pg cf ct la gr cr ne nl oe ol fl tl tn N)) (he : e < 16) (hn : n < 64) (hL : 20 ≤ L) (hL2 : L ≤ 200) (hs : s < 256) (k1 : n / 8 ≠ n % 8) (k2 : 1 ≤ s % 4) (k3 : s % 4 ≤ 2) (k4 : 1 ≤ s / 4 % 16) (k5 : s / 4 % 16 ≤ 12) (k6 : ¬ ∃ c, c < 32 ∧ st c ≠ 0)
    (hE : (rq_E (ru_p ln e (s % 4)) (ru_p fm e (n / 8)) (ru_p tt e (n % 8)) (ru_p le e L) (ru_p li e (s / 4 % 16)) (ru_p rk e (s / 64)) (ru_p we e 0) (ru_p op e 1) (ru_p (ru_p mk (2 * e) 65535) (2 * e + 1) 65535)))
    (H : ∀ wd wn, (rq_WX (ru_p ln e (s % 4)) (ru_p fm e (n / 8)) (ru_p tt e (n % 8)) (ru_p le e L) (ru_p li e (s / 4 % 16)) (ru_p we e 0) (ru_p op e 1) (ru_p (ru_p mk (2 * e) 65535) (2 * e + 1) 65535) wd wn) → post 1 (nI tn, rn_A (ru_p ln e (s % 4)), rn_A (ru_p fm e (n / 8)), rn_A (ru_p tt e (n % 8)), rn_A (ru_p le e L), rn_A (ru_p li e (s / 4 % 16)), rn_A (ru_p rk e (s / 64)), rn_A (ru_p we e 0), rn_A (ru_p op e 1), rn_A (ru_p ca e 0), rn_A (ru_p (ru_p mk (2 * e) 65535) (2 * e + 1) 65535), rn_B wd, rn_B wn, rn_A pc, rn_A ph, rn_A pa, rn_A pe, rn_A pt, rn_A tp, rn_A ac, rn_A sz, rn_A dw, rn_A st, rn_A ty, rn_A ed, rn_B ps, rn_A fr, rn_A sp, rn_A go, rn_A nz, rn_B pg, rn_B cf, rn_B ct, rn_A tk, rn_A en, rn_B ch, rn_A nw, rn_A tl)) : wpX_edge post (nI tn, rn_A ln, rn_A fm, rn_A tt, rn_A le, rn_A li, rn_A rk, rn_A we, rn_A op, rn_A ca, rn_A mk, rn_B wd, rn_B wn, rn_A pc, rn_A ph, rn_A pa, rn_A pe, rn_A pt, rn_A tp, rn_A ac, rn_A sz, rn_A dw, rn_A st, rn_A ty, rn_A ed, rn_B ps, rn_A fr, rn_A sp, rn_A go, rn_A nz, rn_B pg, rn_B cf, rn_B ct, rn_A tk, rn_A en, rn_B ch, rn_A nw, rn_A tl) (nI e) (nI n) (nI L) (nI s) := by
  obtain ⟨b1, b2, b3, b4, b5⟩ := ra_edgeB (n := n) (s := s) rfl hn rfl hs
  have ie : vp_in (nI e) 16 := pk_in e 16 he
  have m2 : (2 : Int32) * nI e = nI (2 * e) := pk_mul 2 _
  refine br_f (nI_pos (by omega)) (br_f (nI_ge (b := 16) he (by decide)) (br_f (nI_pos (by omega)) (br_f (nI_ge (b := 64) hn (by decide)) (br_f (nI_nlt (b := 20) hL (by omega)) (br_t (nI_le (b := 200) hL2 (by decide)) ⟨by decide, nm_r b1 ⟨by decide, nm_r b2 ⟨by decide, nm_r b3 ⟨by decide, by decide, nm_r b4 ?_⟩⟩⟩⟩)))))
  refine br_f (fun w => k1 ((nI_eq (by omega) (by omega)).mp w)) (br_f (nI_pos (by omega)) (br_f (nI_ge (b := 256) hs (by decide)) (br_f (nI_nlt (b := 1) k2 (by omega)) (br_f (nI_nlt (a := 2) k3 (by decide)) (br_f (nI_nlt (b := 1) k4 (by omega)) (br_t (nI_le (b := 12) k5 (by decide)) (rx_any _ (rI_st I) (rb_b (fun _ => ?_) (fun w => absurd w k6)))))))))
  rw [rn_vb, b5, m2, show nI (2 * e) + 1 = nI (2 * e + 1) from nI_1 _]
  refine ⟨ie, nm_r (rn_uA (by omega)) ⟨ie, nm_r (rn_uA (by omega)) ⟨ie, nm_r (rn_uA (by omega)) ⟨ie, nm_r (rn_uA (by omega)) ⟨ie, nm_r (rn_uA (by omega)) ⟨by decide, ie, nm_r (rn_uA (by omega)) ⟨ie, nm_r (rn_uA (x := 0) (by omega)) ⟨ie, nm_r (rn_uA (x := 1) (by omega)) ⟨ie, nm_r (rn_uA (x := 0) (by omega)) ⟨vp_in_nI (by omega) (by omega), nm_r (rn_uA (x := 65535) (by omega)) ⟨vp_in_nI (by omega) (by omega), nm_r (rn_uA (x := 65535) (by omega)) (rx_ways _ hE H)⟩⟩⟩⟩⟩⟩⟩⟩⟩⟩⟩
theorem ry_edgeA (post : Int32 → SY → Prop) {e n L s : Nat} (I : (rq_L ln fm tt le li rk we op mk wd wn pc ph pa pe pt se ls mo tp ac sz dw st ty ed fr sp go tk en ch ps pg cf ct la gr cr ne nl oe ol fl tl tn N)) (he : e < 16) (hn : n < 64) (hL : 20 ≤ L) (hL2 : L ≤ 200) (hs : s < 256) (k1 : n / 8 ≠ n % 8) (k2 : 1 ≤ s % 4) (k3 : s % 4 ≤ 2) (k4 : 1 ≤ s / 4 % 16) (k5 : s / 4 % 16 ≤ 12) (k6 : ¬ ∃ c, c < 32 ∧ st c ≠ 0)
    (H : post 1 (nI 0, nI tn, th, rn_T (ru_p ln e (s % 4)), rn_A (ru_p op e 1), rn_A (ru_p fm e (n / 8)), rn_A (ru_p tt e (n % 8)), rn_A (ru_p le e L), rn_A (ru_p ln e (s % 4)), rn_A (ru_p li e (s / 4 % 16)), rn_A (ru_p rk e (s / 64)), rn_A (ru_p we e 0), rn_A (ru_p ca e 0), rn_A (ru_p (ru_p mk (2 * e) 65535) (2 * e + 1) 65535), rn_A fa, rn_A tp, rn_A ac, rn_A sz, rn_A dw, rn_A st, rn_A ty, rn_A ed, rn_A la, rn_A fr, rn_A sp, rn_A go, rn_A nz, rn_A tk, rn_C ch, rn_A en, rn_A nw, rn_A gr, rn_A cr, rn_A ne, rn_A nl, rn_A oe, rn_A ol, rn_A fl, rn_A pc, rn_A ph, rn_A pa, rn_A se, rn_A ls, rn_A mo, rn_A tl, gp, fs)) : wpY_edge post (nI kn, nI tn, th, rn_T ln, rn_A op, rn_A fm, rn_A tt, rn_A le, rn_A ln, rn_A li, rn_A rk, rn_A we, rn_A ca, rn_A mk, rn_A fa, rn_A tp, rn_A ac, rn_A sz, rn_A dw, rn_A st, rn_A ty, rn_A ed, rn_A la, rn_A fr, rn_A sp, rn_A go, rn_A nz, rn_A tk, rn_C ch, rn_A en, rn_A nw, rn_A gr, rn_A cr, rn_A ne, rn_A nl, rn_A oe, rn_A ol, rn_A fl, rn_A pc, rn_A ph, rn_A pa, rn_A se, rn_A ls, rn_A mo, rn_A tl, gp, fs) (nI e) (nI n) (nI L) (nI s) := by
  obtain ⟨b1, b2, b3, b4, b5⟩ := ra_edgeB (n := n) (s := s) rfl hn rfl hs
  have ie : vp_in (nI e) 16 := pk_in e 16 he
  have m2 : (2 : Int32) * nI e = nI (2 * e) := pk_mul 2 _
  have yes : ∀ {a b x : Nat}, a ≤ x → x ≤ b → b < 2147483648 → (¬ nI x < nI a ∧ ¬ nI b < nI x) := fun h1 h2 h3 => ⟨nI_nlt h1 (by omega), nI_nlt h2 h3⟩
  have y0 : ∀ {b x : Nat}, x ≤ b → b < 2147483648 → (¬ nI x < 0 ∧ ¬ nI b < nI x) := fun h1 h2 => ⟨nI_pos (by omega), nI_nlt h1 h2⟩
  refine ⟨by decide, nm_r b3 ⟨by decide, by decide, nm_r b4 ?_⟩⟩
  refine ry_in _ _ _ _ (rb_b (fun w => absurd (y0 (b := 15) (by omega) (by omega)) w) (fun _ => ?_))
  refine ry_in _ _ _ _ (rb_b (fun w => absurd (y0 (b := 63) (by omega) (by omega)) w) (fun _ => ?_))
  rw [b2, b1]
  refine ⟨by decide, by decide, br_f (fun w => k1 ((nI_eq (by omega) (by omega)).mp w)) ?_⟩
  refine ry_in _ _ _ _ (rb_b (fun w => absurd (yes (a := 20) (b := 200) hL hL2 (by omega)) w) (fun _ => ?_))
  refine ry_in _ _ _ _ (rb_b (fun w => absurd (y0 (b := 255) (by omega) (by omega)) w) (fun _ => ?_))
  refine ry_in _ _ _ _ (rb_b (fun w => absurd (yes (a := 1) (b := 2) k2 k3 (by omega)) w) (fun _ => ?_))
  refine ry_in _ _ _ _ (rb_b (fun w => absurd (yes (a := 1) (b := 12) k4 k5 (by omega)) w) (fun _ => ?_))
  refine ry_no _ (rI_st I) (rb_b (fun w => absurd k6 w) (fun _ => ?_))
  rw [rn_vb, b5, m2, show nI (2 * e) + 1 = nI (2 * e + 1) from nI_1 _]
  exact ⟨ie, nm_r (rn_uT (x := s % 4) (by omega) (by omega)) ⟨ie, nm_r (rn_uA (x := 1) (by omega)) ⟨by decide, ie, nm_r (rn_uA (by omega)) ⟨by decide, ie, nm_r (rn_uA (by omega)) ⟨ie, nm_r (rn_uA (by omega)) ⟨ie, nm_r (rn_uA (by omega)) ⟨ie, nm_r (rn_uA (by omega)) ⟨by decide, ie, nm_r (rn_uA (by omega)) ⟨ie, nm_r (rn_uA (x := 0) (by omega)) ⟨ie, nm_r (rn_uA (x := 0) (by omega)) ⟨vp_in_nI (by omega) (by omega), nm_r (rn_uA (x := 65535) (by omega)) ⟨vp_in_nI (by omega) (by omega), nm_r (rn_uA (x := 65535) (by omega)) H⟩⟩⟩⟩⟩⟩⟩⟩⟩⟩⟩⟩
/-- a new edge, with no car there -/
theorem rl_edgeE {e n L s : Nat} (hE : (rq_E ln fm tt le li rk we op mk)) (hn : n < 64) (hL : 20 ≤ L) (hL2 : L ≤ 200) (hs : s < 256) (k1 : n / 8 ≠ n % 8) (k2 : 1 ≤ s % 4) (k3 : s % 4 ≤ 2) (k4 : 1 ≤ s / 4 % 16) (k5 : s / 4 % 16 ≤ 12) : (rq_E (ru_p ln e (s % 4)) (ru_p fm e (n / 8)) (ru_p tt e (n % 8)) (ru_p le e L) (ru_p li e (s / 4 % 16)) (ru_p rk e (s / 64)) (ru_p we e 0) (ru_p op e 1) (ru_p (ru_p mk (2 * e) 65535) (2 * e + 1) 65535)) := by
  obtain ⟨h1, h2, h3⟩ := hE
  have hm : ∀ i, ru_p (ru_p mk (2 * e) 65535) (2 * e + 1) 65535 i < 65536 := by
    intro i
    have := (h1 i).2.2.2.2.2.2.2.2
    unfold ru_p
    split
    · omega
    · split <;> omega
  refine ⟨fun i => ?_, fun i => ?_, fun i => ?_⟩
  · have a := h1 i
    have b := hm i
    rcases Nat.decEq i e with q | q
    · rw [ru_n q, ru_n q, ru_n q, ru_n q, ru_n q, ru_n q, ru_n q, ru_n q]
      omega
    · subst q
      rw [ru_s, ru_s, ru_s, ru_s, ru_s, ru_s, ru_s, ru_s]
      omega
  · rcases Nat.decEq i e with q | q
    · rw [ru_n q, ru_n q, ru_n q, ru_n q, ru_n q]; exact h2 i
    · subst q
      rw [ru_s, ru_s, ru_s, ru_s, ru_s]
      intro _
      exact ⟨k1, hL, k4⟩
  · rcases Nat.decEq i e with q | q
    · rw [ru_n q, ru_n q]; exact h3 i
    · subst q
      rw [ru_s, ru_s]
      omega
theorem rl_edgeC {ln' : Nat → Nat} (h : (rq_C ln st ty ed fr sp go tk en ch ps pg cf ct la gr cr ne nl oe ol fl tn N)) (k6 : ¬ ∃ c, c < 32 ∧ st c ≠ 0) : (rq_C ln' st ty ed fr sp go tk en ch ps pg cf ct la gr cr ne nl oe ol fl tn N) ∧ (∀ c, c < 32 → ps c = 0) ∧ (∀ c, c < 32 → pg c = 0) := by
  have z : ∀ c, c < 32 → st c = 0 := by
    intro c hc
    rcases Nat.eq_zero_or_pos (st c) with w | w
    · exact w
    · exact absurd ⟨c, hc, by omega⟩ k6
  refine ⟨⟨h.1, fun c hc => ?_⟩, fun c hc => ((h.2 c hc).2.2.1 (by have := z c hc; omega)).1, fun c hc => ((h.2 c hc).2.2.1 (by have := z c hc; omega)).2.1⟩
  obtain ⟨b1, b2, b3, b4, b5⟩ := h.2 c hc
  have s0 := z c hc
  have p := b3 (by omega)
  refine ⟨fun w => absurd s0 w, fun w => by omega, b3, Or.inl ?_, b5⟩
  rcases b4 with w | w
  · exact w
  · omega
end
theorem i_vc_edge {k : Nat} {u : SX} {v : SY} (I : i_Rel k u v) (hk : k + 5 ≤ 2560) (v1 : Int32) (v2 : Int32) (v3 : Int32) (v4 : Int32) : wpX_edge (fun r u' => wpY_edge (fun r' v' => r' = r ∧ i_Rel (k + 5) u' v') v v1 v2 v3 v4) u v1 v2 v3 v4 := by
  obtain ⟨ln, fm, tt, le, li, rk, we, op, ca, mk, wd, wn, fa, pc, ph, pa, pe, pt, se, ls, mo, tp, ac, sz, dw, st, ty, ed, fr, sp, go, nz, tk, en, ch, nw, ps, pg, cf, ct, la, gr, cr, ne, nl, oe, ol, fl, tl, tn, kn, N, th, gp, fs, rfl, rfl, I, hW, hN, ht⟩ := I
  rcases Classical.em (ra_edge st v1 v2 v3 v4) with ⟨e, n, L, s, rfl, he, rfl, hn, rfl, hL, hL2, rfl, hs, k1, k2, k3, k4, k5, k6⟩ | hn
  · have E1 := rl_edgeE (e := e) I.1.1 hn hL hL2 hs k1 k2 k3 k4 k5
    obtain ⟨c1, c2, c3⟩ := rl_edgeC (ln' := ru_p ln e (s % 4)) I.1.2.1 k6
    exact rx_edgeA _ I.1 he hn hL hL2 hs k1 k2 k3 k4 k5 k6 E1 (fun wd wn hX => ry_edgeA _ I.1 he hn hL hL2 hs k1 k2 k3 k4 k5 k6 ⟨rfl, rl_rel (kn := 0) ⟨⟨E1, c1, I.1.2.2.1, I.1.2.2.2.1, hX, I.1.2.2.2.2.2⟩, rd_none c2 c3⟩ (Or.inl rfl) (by omega) (by omega)⟩)
  · exact rx_edgeN _ I.1 hn (ry_edgeN _ I.1 hn ⟨rfl, rl_rel I hW (by omega) (by omega)⟩)
