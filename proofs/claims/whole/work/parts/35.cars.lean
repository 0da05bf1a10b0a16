/-! type, car, aim, remove -/
def ra_ty (st ty : Nat → Nat) (p0 p1 p2 p3 : Int32) : Prop := ∃ t a b s : Nat, p0 = nI t ∧ t < 4 ∧ p1 = nI a ∧ 1 ≤ a ∧ a ≤ 12 ∧ p2 = nI b ∧ 1 ≤ b ∧ b ≤ 3 ∧ p3 = nI s ∧ s < 100 ∧ 3 ≤ s % 10 ∧ s % 10 ≤ 8 ∧ ¬ ∃ c, c < 32 ∧ st c ≠ 0 ∧ ty c = t
theorem rn_10 {t : Nat} (h : t < 65536) : nI t - nI t / 10 * 10 = nI (t % 10) ∧ nI t / 10 = nI (t / 10) := ⟨pk_rem (d := 10) (by omega) (by omega) (by omega), pk_div (d := 10) (by omega) (by omega) (by omega)⟩
section
variable {ln fm tt le li rk we op ca mk wd wn fa pc ph pa pe pt se ls mo tp ac sz dw st ty ed fr sp go nz tk en ch nw ps pg cf ct la gr cr ne nl oe ol fl tl : Nat → Nat} {tn kn N : Nat} {th : Int32} {gp fs : Nat → Int32}
theorem rx_tyN (post : Int32 → SX → Prop) {p0 p1 p2 p3 : Int32} (I : (rq_L ln fm tt le li rk we op mk wd wn pc ph pa pe pt se ls mo tp ac sz dw st ty ed fr sp go tk en ch ps pg cf ct la gr cr ne nl oe ol fl tl tn N)) (hn : ¬ ra_ty st ty p0 p1 p2 p3) (h : post 0 (nI tn, rn_A ln, rn_A fm, rn_A tt, rn_A le, rn_A li, rn_A rk, rn_A we, rn_A op, rn_A ca, rn_A mk, rn_B wd, rn_B wn, rn_A pc, rn_A ph, rn_A pa, rn_A pe, rn_A pt, rn_A tp, rn_A ac, rn_A sz, rn_A dw, rn_A st, rn_A ty, rn_A ed, rn_B ps, rn_A fr, rn_A sp, rn_A go, rn_A nz, rn_B pg, rn_B cf, rn_B ct, rn_A tk, rn_A en, rn_B ch, rn_A nw, rn_A tl)) : wpX_type post (nI tn, rn_A ln, rn_A fm, rn_A tt, rn_A le, rn_A li, rn_A rk, rn_A we, rn_A op, rn_A ca, rn_A mk, rn_B wd, rn_B wn, rn_A pc, rn_A ph, rn_A pa, rn_A pe, rn_A pt, rn_A tp, rn_A ac, rn_A sz, rn_A dw, rn_A st, rn_A ty, rn_A ed, rn_B ps, rn_A fr, rn_A sp, rn_A go, rn_A nz, rn_B pg, rn_B cf, rn_B ct, rn_A tk, rn_A en, rn_B ch, rn_A nw, rn_A tl) p0 p1 p2 p3 := by
  refine br_c (fun _ => h) (fun k0 => br_c (fun _ => h) (fun k1 => br_c (fun _ => h) (fun k2 => br_c (fun _ => h) (fun k3 => br_c (fun _ => h) (fun k4 => br_c (fun k5 => ⟨by decide, fun x5 e5 => ?_⟩) (fun _ => h))))))
  refine br_c (fun _ => h) (fun k6 => br_c (fun _ => h) (fun k7 => br_c (fun _ => h) (fun k8 => br_c (fun _ => h) (fun k9 => ?_))))
  obtain ⟨t, ht, rfl⟩ := rn_16 (M := 4) (by omega) k0 k1
  obtain ⟨a, rfl, a1, a2⟩ := rn_rg (a := 1) (b := 12) (by omega) (by omega) k2 k3
  obtain ⟨b, rfl, b1, b2⟩ := rn_rg (a := 1) (b := 3) (by omega) (by omega) k4 (Int32.not_lt.mpr k5)
  obtain ⟨s, hs, rfl⟩ := rn_16 (M := 100) (by omega) k6 k7
  rw [e5, (rn_10 (t := s) (by omega)).1] at k8 k9
  have k8' := rn_nl (a := s % 10) (b := 3) (by omega) (by omega) k8
  have k9' := rn_nl (a := 8) (b := s % 10) (by omega) (by omega) k9
  exact rx_use _ rfl ht (rI_st I) (fun c => (rI_c I c).2.1) (rb_b (fun k => absurd ⟨t, a, b, s, rfl, ht, rfl, a1, a2, rfl, b1, b2, rfl, hs, k8', k9', k⟩ hn) (fun _ => h))
theorem ry_t58 (post : Int32 → SY → Prop) {t : Nat} {p1 p2 p3 : Int32} (I : (rq_L ln fm tt le li rk we op mk wd wn pc ph pa pe pt se ls mo tp ac sz dw st ty ed fr sp go tk en ch ps pg cf ct la gr cr ne nl oe ol fl tl tn N)) (ht : t < 4) (P : Prop) (hP : P ↔ ∃ c, c < 32 ∧ st c ≠ 0 ∧ ty c = t) (h0 : P → post 0 (nI kn, nI tn, th, rn_T ln, rn_A op, rn_A fm, rn_A tt, rn_A le, rn_A ln, rn_A li, rn_A rk, rn_A we, rn_A ca, rn_A mk, rn_A fa, rn_A tp, rn_A ac, rn_A sz, rn_A dw, rn_A st, rn_A ty, rn_A ed, rn_A la, rn_A fr, rn_A sp, rn_A go, rn_A nz, rn_A tk, rn_C ch, rn_A en, rn_A nw, rn_A gr, rn_A cr, rn_A ne, rn_A nl, rn_A oe, rn_A ol, rn_A fl, rn_A pc, rn_A ph, rn_A pa, rn_A se, rn_A ls, rn_A mo, rn_A tl, gp, fs)) (h1 : ¬ P → ∀ n, wY_type_58 post (nI t) p1 p2 p3 (nI kn) (nI tn) th (rn_T ln) (rn_A op) (rn_A fm) (rn_A tt) (rn_A le) (rn_A ln) (rn_A li) (rn_A rk) (rn_A we) (rn_A ca) (rn_A mk) (rn_A fa) (rn_A tp) (rn_A ac) (rn_A sz) (rn_A dw) (rn_A st) (rn_A ty) (rn_A ed) (rn_A la) (rn_A fr) (rn_A sp) (rn_A go) (rn_A nz) (rn_A tk) (rn_C ch) (rn_A en) (rn_A nw) (rn_A gr) (rn_A cr) (rn_A ne) (rn_A nl) (rn_A oe) (rn_A ol) (rn_A fl) (rn_A pc) (rn_A ph) (rn_A pa) (rn_A se) (rn_A ls) (rn_A mo) (rn_A tl) gp fs (n + 1) (nI 32)) : ∃ n, wY_type_58 post (nI t) p1 p2 p3 (nI kn) (nI tn) th (rn_T ln) (rn_A op) (rn_A fm) (rn_A tt) (rn_A le) (rn_A ln) (rn_A li) (rn_A rk) (rn_A we) (rn_A ca) (rn_A mk) (rn_A fa) (rn_A tp) (rn_A ac) (rn_A sz) (rn_A dw) (rn_A st) (rn_A ty) (rn_A ed) (rn_A la) (rn_A fr) (rn_A sp) (rn_A go) (rn_A nz) (rn_A tk) (rn_C ch) (rn_A en) (rn_A nw) (rn_A gr) (rn_A cr) (rn_A ne) (rn_A nl) (rn_A oe) (rn_A ol) (rn_A fl) (rn_A pc) (rn_A ph) (rn_A pa) (rn_A se) (rn_A ls) (rn_A mo) (rn_A tl) gp fs n 0 := by
  refine loop_0 (fun n i (_ : Unit) => wY_type_58 post (nI t) p1 p2 p3 (nI kn) (nI tn) th (rn_T ln) (rn_A op) (rn_A fm) (rn_A tt) (rn_A le) (rn_A ln) (rn_A li) (rn_A rk) (rn_A we) (rn_A ca) (rn_A mk) (rn_A fa) (rn_A tp) (rn_A ac) (rn_A sz) (rn_A dw) (rn_A st) (rn_A ty) (rn_A ed) (rn_A la) (rn_A fr) (rn_A sp) (rn_A go) (rn_A nz) (rn_A tk) (rn_C ch) (rn_A en) (rn_A nw) (rn_A gr) (rn_A cr) (rn_A ne) (rn_A nl) (rn_A oe) (rn_A ol) (rn_A fl) (rn_A pc) (rn_A ph) (rn_A pa) (rn_A se) (rn_A ls) (rn_A mo) (rn_A tl) gp fs n (nI i)) (fun i _ => ∀ c, c < i → ¬ (st c ≠ 0 ∧ ty c = t)) 32 () (fun c hc => absurd hc (Nat.not_lt_zero c)) ?_ ?_
  · intro n _ e
    exact h1 (fun w => by obtain ⟨c, c1, c2⟩ := hP.mp w; exact e c c1 c2) n
  · intro n i _ hi e ih
    have A := rI_c I i
    refine pk_le 32 i (fun z => by omega) (fun _ => ⟨pk_in i 32 hi, ?_⟩)
    refine ek_f (rn_e (rn_rA (by omega)) (b := 0) rfl (by omega) (by omega)) (fun e1 => nm_r (nI_1 i) (ih () (lt_s e (fun k => k.1 e1)))) (fun e1 => ⟨pk_in i 32 hi, ?_⟩)
    exact ek_f (rn_e (rn_rA (by omega)) (b := t) rfl (by omega) (by omega)) (fun e2 => h0 (hP.mpr ⟨i, hi, e1, e2⟩)) (fun e2 => nm_r (nI_1 i) (ih () (lt_s e (fun k => e2 k.2))))
theorem ry_tyN (post : Int32 → SY → Prop) {p0 p1 p2 p3 : Int32} (I : (rq_L ln fm tt le li rk we op mk wd wn pc ph pa pe pt se ls mo tp ac sz dw st ty ed fr sp go tk en ch ps pg cf ct la gr cr ne nl oe ol fl tl tn N)) (hn : ¬ ra_ty st ty p0 p1 p2 p3) (h : post 0 (nI kn, nI tn, th, rn_T ln, rn_A op, rn_A fm, rn_A tt, rn_A le, rn_A ln, rn_A li, rn_A rk, rn_A we, rn_A ca, rn_A mk, rn_A fa, rn_A tp, rn_A ac, rn_A sz, rn_A dw, rn_A st, rn_A ty, rn_A ed, rn_A la, rn_A fr, rn_A sp, rn_A go, rn_A nz, rn_A tk, rn_C ch, rn_A en, rn_A nw, rn_A gr, rn_A cr, rn_A ne, rn_A nl, rn_A oe, rn_A ol, rn_A fl, rn_A pc, rn_A ph, rn_A pa, rn_A se, rn_A ls, rn_A mo, rn_A tl, gp, fs)) : wpY_type post (nI kn, nI tn, th, rn_T ln, rn_A op, rn_A fm, rn_A tt, rn_A le, rn_A ln, rn_A li, rn_A rk, rn_A we, rn_A ca, rn_A mk, rn_A fa, rn_A tp, rn_A ac, rn_A sz, rn_A dw, rn_A st, rn_A ty, rn_A ed, rn_A la, rn_A fr, rn_A sp, rn_A go, rn_A nz, rn_A tk, rn_C ch, rn_A en, rn_A nw, rn_A gr, rn_A cr, rn_A ne, rn_A nl, rn_A oe, rn_A ol, rn_A fl, rn_A pc, rn_A ph, rn_A pa, rn_A se, rn_A ls, rn_A mo, rn_A tl, gp, fs) p0 p1 p2 p3 := by
  unfold wpY_type
  refine ry_in _ _ _ _ (rb_b (fun _ => h) (fun k0 => ry_in _ _ _ _ (rb_b (fun _ => h) (fun k1 => ry_in _ _ _ _ (rb_b (fun _ => h) (fun k2 => ry_in _ _ _ _ (rb_b (fun _ => h) (fun k3 => ⟨by decide, ?_⟩))))))))
  obtain ⟨t, rfl, _, ht⟩ := rn_rg (a := 0) (b := 3) (by omega) (by omega) k0.1 k0.2
  obtain ⟨a, rfl, a1, a2⟩ := rn_rg (a := 1) (b := 12) (by omega) (by omega) k1.1 k1.2
  obtain ⟨b, rfl, b1, b2⟩ := rn_rg (a := 1) (b := 3) (by omega) (by omega) k2.1 k2.2
  obtain ⟨s, rfl, _, hs⟩ := rn_rg (a := 0) (b := 99) (by omega) (by omega) k3.1 k3.2
  rw [(rn_10 (t := s) (by omega)).1]
  refine ry_in _ _ _ _ (rb_b (fun _ => h) (fun k4 => ry_t58 post I (by omega) _ Iff.rfl (fun _ => h) (fun w => ?_)))
  have k8' := rn_nl (a := s % 10) (b := 3) (by omega) (by omega) k4.1
  have k9' := rn_nl (a := 8) (b := s % 10) (by omega) (by omega) k4.2
  exact absurd ⟨t, a, b, s, rfl, by omega, rfl, a1, a2, rfl, b1, b2, rfl, by omega, k8', k9', w⟩ hn
end
theorem i_vc_type {k : Nat} {u : SX} {v : SY} (I : i_Rel k u v) (hk : k + 5 ≤ 2560) (v1 : Int32) (v2 : Int32) (v3 : Int32) (v4 : Int32) : wpX_type (fun r u' => wpY_type (fun r' v' => r' = r ∧ i_Rel (k + 5) u' v') v v1 v2 v3 v4) u v1 v2 v3 v4 := by
  obtain ⟨ln, fm, tt, le, li, rk, we, op, ca, mk, wd, wn, fa, pc, ph, pa, pe, pt, se, ls, mo, tp, ac, sz, dw, st, ty, ed, fr, sp, go, nz, tk, en, ch, nw, ps, pg, cf, ct, la, gr, cr, ne, nl, oe, ol, fl, tl, tn, kn, N, th, gp, fs, rfl, rfl, I, hW, hN, hT⟩ := I
  rcases Classical.em (ra_ty st ty v1 v2 v3 v4) with ⟨t, a, b, s, rfl, ht, rfl, a1, a2, rfl, b1, b2, rfl, hs, s1, s2, nu⟩ | hn
  · have it : vp_in (nI t) 4 := pk_in t 4 ht
    obtain ⟨q1, q2⟩ := rn_10 (t := s) (by omega)
    have T1 : (rq_Ty (ru_p tp t a) (ru_p ac t b) (ru_p sz t (s % 10)) (ru_p dw t (s / 10))) := by
      intro i hi
      rcases Nat.decEq i t with z | z
      · rw [ru_n z, ru_n z, ru_n z, ru_n z]; exact I.1.2.2.2.1 i hi
      · subst z; rw [ru_s, ru_s, ru_s, ru_s]; omega
    have S1 : (rd_Safe le fm tt ps pg fr sp go (fun x => (ru_p sz t (s % 10)) (ty x))) := by
      refine rd_same I.2 (fun c hc hp => ⟨rfl, rfl, rfl, ?_⟩)
      have : ty c ≠ t := by
        intro w
        refine nu ⟨c, hc, ?_, w⟩
        intro z
        have := ((rI_p I.1 hc).2.2.2.2.1 (by omega)).1
        omega
      exact ru_n this
    refine br_f (nI_pos (by omega)) (br_f (nI_ge (b := 4) ht (by decide)) (br_f (nI_nlt (b := 1) a1 (by omega)) (br_f (nI_nlt (a := 12) a2 (by decide)) (br_f (nI_nlt (b := 1) b1 (by omega)) (br_t (nI_le (b := 3) b2 (by decide)) ⟨by decide, nm_r q1 ?_⟩)))))
    refine br_f (nI_pos (by omega)) (br_f (nI_ge (b := 100) hs (by decide)) (br_f (nI_nlt (b := 3) s1 (by omega)) (br_f (nI_nlt (a := 8) s2 (by decide)) (rx_use _ rfl ht (rI_st I.1) (fun c => (rI_c I.1 c).2.1) (rb_b (fun _ => ?_) (fun w => absurd w nu))))))
    rw [q2]
    refine ⟨it, nm_r (rn_uA (by omega)) ⟨it, nm_r (rn_uA (by omega)) ⟨it, nm_r (rn_uA (by omega)) ⟨by decide, it, nm_r (rn_uA (by omega)) ?_⟩⟩⟩⟩
    unfold wpY_type
    refine ry_in _ _ _ _ (rb_b (fun w => absurd ⟨nI_pos (by omega), nI_nlt (a := 3) (b := t) (by omega) (by decide)⟩ w) (fun _ => ry_in _ _ _ _ (rb_b (fun w => absurd ⟨nI_nlt (b := 1) a1 (by omega), nI_nlt (a := 12) a2 (by decide)⟩ w) (fun _ => ry_in _ _ _ _ (rb_b (fun w => absurd ⟨nI_nlt (b := 1) b1 (by omega), nI_nlt (a := 3) b2 (by decide)⟩ w) (fun _ => ry_in _ _ _ _ (rb_b (fun w => absurd ⟨nI_pos (by omega), nI_nlt (a := 99) (b := s) (by omega) (by decide)⟩ w) (fun _ => ⟨by decide, ?_⟩))))))))
    rw [q1]
    refine ry_in _ _ _ _ (rb_b (fun w => absurd ⟨nI_nlt (b := 3) s1 (by omega), nI_nlt (a := 8) s2 (by decide)⟩ w) (fun _ => ry_t58 _ I.1 ht _ Iff.rfl (fun w => absurd w nu) (fun _ n => br_t (by decide) ?_)))
    rw [q1, q2]
    exact ⟨it, nm_r (rn_uA (by omega)) ⟨it, nm_r (rn_uA (by omega)) ⟨by decide, it, nm_r (rn_uA (by omega)) ⟨by decide, it, nm_r (rn_uA (by omega)) ⟨rfl, rl_rel ⟨⟨I.1.1, I.1.2.1, I.1.2.2.1, T1, I.1.2.2.2.2⟩, S1⟩ hW (by omega) (by omega)⟩⟩⟩⟩⟩
  · exact rx_tyN _ I.1 hn (ry_tyN _ I.1 hn ⟨rfl, rl_rel I hW (by omega) (by omega)⟩)
/-! car -/
def ra_car (ln st : Nat → Nat) (p0 p1 p2 p3 : Int32) : Prop := ∃ c t e g : Nat, p0 = nI c ∧ c < 32 ∧ p1 = nI t ∧ t < 4 ∧ p2 = nI e ∧ e < 16 ∧ 0 < ln e ∧ p3 = nI g ∧ g < 16 ∧ 0 < ln g ∧ st c = 0
section
variable {ln fm tt le li rk we op ca mk wd wn fa pc ph pa pe pt se ls mo tp ac sz dw st ty ed fr sp go nz tk en ch nw ps pg cf ct la gr cr ne nl oe ol fl tl : Nat → Nat} {tn kn N : Nat} {th : Int32} {gp fs : Nat → Int32}
theorem rx_carN (post : Int32 → SX → Prop) {p0 p1 p2 p3 : Int32} (I : (rq_L ln fm tt le li rk we op mk wd wn pc ph pa pe pt se ls mo tp ac sz dw st ty ed fr sp go tk en ch ps pg cf ct la gr cr ne nl oe ol fl tl tn N)) (hn : ¬ ra_car ln st p0 p1 p2 p3) (h : post 0 (nI tn, rn_A ln, rn_A fm, rn_A tt, rn_A le, rn_A li, rn_A rk, rn_A we, rn_A op, rn_A ca, rn_A mk, rn_B wd, rn_B wn, rn_A pc, rn_A ph, rn_A pa, rn_A pe, rn_A pt, rn_A tp, rn_A ac, rn_A sz, rn_A dw, rn_A st, rn_A ty, rn_A ed, rn_B ps, rn_A fr, rn_A sp, rn_A go, rn_A nz, rn_B pg, rn_B cf, rn_B ct, rn_A tk, rn_A en, rn_B ch, rn_A nw, rn_A tl)) : wpX_car post (nI tn, rn_A ln, rn_A fm, rn_A tt, rn_A le, rn_A li, rn_A rk, rn_A we, rn_A op, rn_A ca, rn_A mk, rn_B wd, rn_B wn, rn_A pc, rn_A ph, rn_A pa, rn_A pe, rn_A pt, rn_A tp, rn_A ac, rn_A sz, rn_A dw, rn_A st, rn_A ty, rn_A ed, rn_B ps, rn_A fr, rn_A sp, rn_A go, rn_A nz, rn_B pg, rn_B cf, rn_B ct, rn_A tk, rn_A en, rn_B ch, rn_A nw, rn_A tl) p0 p1 p2 p3 := by
  have hl : ∀ e, ln e ≤ 2 := fun e => (rI_e I e).1
  refine br_c (fun _ => h) (fun k0 => br_c (fun _ => h) (fun k1 => br_c (fun _ => h) (fun k2 => br_c (fun _ => h) (fun k3 => rx_ie _ _ hl (rb_b (fun _ => h) (fun ⟨e, e1, e2, e3⟩ => rx_ie _ _ hl (rb_b (fun _ => h) (fun ⟨g, g1, g2, g3⟩ => ?_))))))))
  obtain ⟨c, hc, rfl⟩ := rn_16 (M := 32) (by omega) k0 k1
  obtain ⟨t, ht, rfl⟩ := rn_16 (M := 4) (by omega) k2 k3
  have A := rI_c I c
  exact ⟨pk_in c 32 hc, ek_f (rn_e (rn_rA (by omega)) (b := 0) rfl (by omega) (by omega)) (fun k => absurd ⟨c, t, e, g, rfl, hc, rfl, ht, e2, e1, e3, g2, g1, g3, k⟩ hn) (fun _ => h)⟩
theorem ry_isc (post : Int32 → Prop) (x : Int32) (h0 : (¬ ∃ c, c < 32 ∧ x = nI c) → post 0) (h1 : ∀ c, c < 32 → x = nI c → post 1) : wpY_isCar post x := by
  unfold wpY_isCar
  refine ry_in _ _ _ _ ⟨rb_n _, ?_⟩
  rcases Classical.em (¬ x < 0 ∧ ¬ 31 < x) with w | w
  · rw [rb_t w]
    obtain ⟨c, q, _, hc⟩ := rn_rg (a := 0) (b := 31) (by omega) (by omega) w.1 w.2
    exact h1 c (by omega) q
  · rw [rb_f w]
    refine h0 (fun ⟨c, hc, q⟩ => w ?_)
    subst q
    exact ⟨nI_pos (by omega), nI_nlt (a := 31) (b := c) (by omega) (by decide)⟩
theorem ry_carN (post : Int32 → SY → Prop) {p0 p1 p2 p3 : Int32} (I : (rq_L ln fm tt le li rk we op mk wd wn pc ph pa pe pt se ls mo tp ac sz dw st ty ed fr sp go tk en ch ps pg cf ct la gr cr ne nl oe ol fl tl tn N)) (hn : ¬ ra_car ln st p0 p1 p2 p3) (h : post 0 (nI kn, nI tn, th, rn_T ln, rn_A op, rn_A fm, rn_A tt, rn_A le, rn_A ln, rn_A li, rn_A rk, rn_A we, rn_A ca, rn_A mk, rn_A fa, rn_A tp, rn_A ac, rn_A sz, rn_A dw, rn_A st, rn_A ty, rn_A ed, rn_A la, rn_A fr, rn_A sp, rn_A go, rn_A nz, rn_A tk, rn_C ch, rn_A en, rn_A nw, rn_A gr, rn_A cr, rn_A ne, rn_A nl, rn_A oe, rn_A ol, rn_A fl, rn_A pc, rn_A ph, rn_A pa, rn_A se, rn_A ls, rn_A mo, rn_A tl, gp, fs)) : wpY_car post (nI kn, nI tn, th, rn_T ln, rn_A op, rn_A fm, rn_A tt, rn_A le, rn_A ln, rn_A li, rn_A rk, rn_A we, rn_A ca, rn_A mk, rn_A fa, rn_A tp, rn_A ac, rn_A sz, rn_A dw, rn_A st, rn_A ty, rn_A ed, rn_A la, rn_A fr, rn_A sp, rn_A go, rn_A nz, rn_A tk, rn_C ch, rn_A en, rn_A nw, rn_A gr, rn_A cr, rn_A ne, rn_A nl, rn_A oe, rn_A ol, rn_A fl, rn_A pc, rn_A ph, rn_A pa, rn_A se, rn_A ls, rn_A mo, rn_A tl, gp, fs) p0 p1 p2 p3 := by
  unfold wpY_car
  refine ry_isc _ _ (fun _ => br_t rfl h) (fun c hc q => br_f (by decide) (ry_in _ _ _ _ (rb_b (fun _ => h) (fun k => ry_ie _ _ (rb_b (fun _ => h) (fun ⟨e, e1, e2, e3⟩ => ry_ie _ _ (rb_b (fun _ => h) (fun ⟨g, g1, g2, g3⟩ => ?_))))))))
  subst q
  obtain ⟨t, rfl, _, ht⟩ := rn_rg (a := 0) (b := 3) (by omega) (by omega) k.1 k.2
  have A := rI_c I c
  exact ⟨pk_in c 32 hc, ek_f (rn_e (rn_rA (by omega)) (b := 0) rfl (by omega) (by omega)) (fun k => absurd ⟨c, t, e, g, rfl, hc, rfl, by omega, e2, e1, e3, g2, g1, g3, k⟩ hn) (fun _ => h)⟩
theorem rl_carC {c t e g : Nat} (h : (rq_C ln st ty ed fr sp go tk en ch ps pg cf ct la gr cr ne nl oe ol fl tn N)) (hc : c < 32) (ht : t < 4) (he : e < 16) (hle : 0 < ln e) (hg : g < 16) (hlg : 0 < ln g) (h0 : st c = 0) : (rq_C ln (ru_p st c 1) (ru_p ty c t) (ru_p ed c e) fr sp (ru_p go c g) (ru_p tk c tn) en (ru_p ch c 0) ps pg cf ct la (ru_p gr c 0) (ru_p cr c 0) ne nl oe ol fl (tn + 1) N) := by
  refine ⟨fun d => ?_, fun d hd => ?_⟩
  · have a := h.1 d
    rcases Nat.decEq d c with z | z
    · rw [ru_n z, ru_n z, ru_n z, ru_n z, ru_n z, ru_n z]; omega
    · subst z
      rw [ru_s, ru_s, ru_s, ru_s, ru_s, ru_s]; omega
  · obtain ⟨b1, b2, b3, b4, b5⟩ := h.2 d hd
    rcases Nat.decEq d c with z | z
    · rw [ru_n z, ru_n z, ru_n z, ru_n z, ru_n z]
      exact ⟨b1, b2, b3, b4, b5⟩
    · subst z
      have p := b3 (by omega)
      rw [ru_s, ru_s, ru_s, ru_s, ru_s]
      exact ⟨fun _ => ⟨hle, hlg⟩, fun w => by omega, fun _ => p, Or.inl ⟨p.2.1, rfl⟩, fun w => by omega⟩
end
theorem i_vc_car {k : Nat} {u : SX} {v : SY} (I : i_Rel k u v) (hk : k + 5 ≤ 2560) (v1 : Int32) (v2 : Int32) (v3 : Int32) (v4 : Int32) : wpX_car (fun r u' => wpY_car (fun r' v' => r' = r ∧ i_Rel (k + 5) u' v') v v1 v2 v3 v4) u v1 v2 v3 v4 := by
  obtain ⟨ln, fm, tt, le, li, rk, we, op, ca, mk, wd, wn, fa, pc, ph, pa, pe, pt, se, ls, mo, tp, ac, sz, dw, st, ty, ed, fr, sp, go, nz, tk, en, ch, nw, ps, pg, cf, ct, la, gr, cr, ne, nl, oe, ol, fl, tl, tn, kn, N, th, gp, fs, rfl, rfl, I, hW, hN, hT⟩ := I
  have hl : ∀ e, ln e ≤ 2 := fun e => (rI_e I.1 e).1
  rcases Classical.em (ra_car ln st v1 v2 v3 v4) with ⟨c, t, e, g, rfl, hc, rfl, ht, rfl, he, hle, rfl, hg, hlg, h0⟩ | hn
  · have ic : vp_in (nI c) 32 := pk_in c 32 hc
    have A := rI_c I.1 c
    have pc0 := ((rI_p I.1 hc).2.2.2.2.1 (by omega)).1
    have nz1 : (12345 : Int32) + nI c = nI (12345 + c) := by rw [show (12345 : Int32) = nI 12345 from rfl, nI_add]
    have C1 := rl_carC I.1.2.1 hc ht he hle hg hlg h0
    have S1 : (rd_Safe le fm tt ps pg fr sp (ru_p go c g) (fun x => sz ((ru_p ty c t) x))) := by
      refine rd_same I.2 (fun d hd hp => ?_)
      have z : d ≠ c := by intro w; subst w; omega
      refine ⟨rfl, rfl, ru_n z, ?_⟩
      show sz (ru_p ty c t d) = sz (ty d)
      rw [ru_n z]
    refine br_f (nI_pos (by omega)) (br_f (nI_ge (b := 32) hc (by decide)) (br_f (nI_pos (by omega)) (br_f (nI_ge (b := 4) ht (by decide)) (rx_ie _ _ hl (rb_b (fun w => absurd ⟨e, he, rfl, hle⟩ w) (fun _ => rx_ie _ _ hl (rb_b (fun w => absurd ⟨g, hg, rfl, hlg⟩ w) (fun _ => ⟨ic, ek_f (rn_e (rn_rA (by omega)) (b := 0) rfl (by omega) (by omega)) (fun _ => ?_) (fun w => absurd h0 w)⟩))))))))
    rw [nz1]
    refine ⟨ic, nm_r (rn_uA (x := 1) (by omega)) ⟨ic, nm_r (rn_uA (by omega)) ⟨ic, nm_r (rn_uA (by omega)) ⟨ic, nm_r (rn_uA (by omega)) ⟨ic, nm_r (rn_uA (by omega)) ⟨ic, nm_r (rn_uB (x := 0) (by omega)) ⟨ic, nm_r (rn_uA (by omega)) (nm_r (nI_1 tn) ?_)⟩⟩⟩⟩⟩⟩⟩
    unfold wpY_car
    refine ry_isc _ _ (fun w => absurd ⟨c, hc, rfl⟩ w) (fun c' hc' q => br_f (by decide) (ry_in _ _ _ _ (rb_b (fun w => absurd ⟨nI_pos (by omega), nI_nlt (a := 3) (b := t) (by omega) (by decide)⟩ w) (fun _ => ry_ie _ _ (rb_b (fun w => absurd ⟨e, he, rfl, hle⟩ w) (fun _ => ry_ie _ _ (rb_b (fun w => absurd ⟨g, hg, rfl, hlg⟩ w) (fun _ => ⟨ic, ek_f (rn_e (rn_rA (by omega)) (b := 0) rfl (by omega) (by omega)) (fun _ => ?_) (fun w => absurd h0 w)⟩))))))))
    rw [nz1, rn_vf]
    exact ⟨ic, nm_r (rn_uA (x := 1) (by omega)) ⟨ic, nm_r (rn_uA (by omega)) ⟨ic, nm_r (rn_uA (by omega)) ⟨ic, nm_r (rn_uA (by omega)) ⟨ic, nm_r (rn_uA (by omega)) (nm_r (nI_1 tn) ⟨ic, nm_r (rn_uA (by omega)) ⟨ic, nm_r (rn_uA (x := 0) (by omega)) ⟨ic, nm_r (rn_uA (x := 0) (by omega)) ⟨ic, nm_r (rn_uC (x := 0) (by omega)) ⟨rfl, rl_rel (tn := tn + 1) ⟨⟨I.1.1, C1, I.1.2.2.1, I.1.2.2.2.1, I.1.2.2.2.2.1, I.1.2.2.2.2.2.1, I.1.2.2.2.2.2.2.1, by omega⟩, S1⟩ hW (by omega) (by omega)⟩⟩⟩⟩⟩)⟩⟩⟩⟩⟩
  · exact rx_carN _ I.1 hn (ry_carN _ I.1 hn ⟨rfl, rl_rel I hW (by omega) (by omega)⟩)
/-! remove -/
theorem i_vc_remove {k : Nat} {u : SX} {v : SY} (I : i_Rel k u v) (hk : k + 5 ≤ 2560) (v1 : Int32) : wpX_remove (fun r u' => wpY_remove (fun r' v' => r' = r ∧ i_Rel (k + 5) u' v') v v1) u v1 := by
  obtain ⟨ln, fm, tt, le, li, rk, we, op, ca, mk, wd, wn, fa, pc, ph, pa, pe, pt, se, ls, mo, tp, ac, sz, dw, st, ty, ed, fr, sp, go, nz, tk, en, ch, nw, ps, pg, cf, ct, la, gr, cr, ne, nl, oe, ol, fl, tl, tn, kn, N, th, gp, fs, rfl, rfl, I, hW, hN, hT⟩ := I
  have R0 : i_Rel (k + 5) (nI tn, rn_A ln, rn_A fm, rn_A tt, rn_A le, rn_A li, rn_A rk, rn_A we, rn_A op, rn_A ca, rn_A mk, rn_B wd, rn_B wn, rn_A pc, rn_A ph, rn_A pa, rn_A pe, rn_A pt, rn_A tp, rn_A ac, rn_A sz, rn_A dw, rn_A st, rn_A ty, rn_A ed, rn_B ps, rn_A fr, rn_A sp, rn_A go, rn_A nz, rn_B pg, rn_B cf, rn_B ct, rn_A tk, rn_A en, rn_B ch, rn_A nw, rn_A tl) (nI kn, nI tn, th, rn_T ln, rn_A op, rn_A fm, rn_A tt, rn_A le, rn_A ln, rn_A li, rn_A rk, rn_A we, rn_A ca, rn_A mk, rn_A fa, rn_A tp, rn_A ac, rn_A sz, rn_A dw, rn_A st, rn_A ty, rn_A ed, rn_A la, rn_A fr, rn_A sp, rn_A go, rn_A nz, rn_A tk, rn_C ch, rn_A en, rn_A nw, rn_A gr, rn_A cr, rn_A ne, rn_A nl, rn_A oe, rn_A ol, rn_A fl, rn_A pc, rn_A ph, rn_A pa, rn_A se, rn_A ls, rn_A mo, rn_A tl, gp, fs) := rl_rel I hW (by omega) (by omega)
  rcases Classical.em (∃ c, c < 32 ∧ v1 = nI c) with ⟨c, hc, rfl⟩ | hn
  · have ic : vp_in (nI c) 32 := pk_in c 32 hc
    have A := rI_c I.1 c
    have one : ∀ c', nI c = nI c' → c' < 32 → c' = c := fun c' h h' => ((nI_eq (by omega) (by omega)).mp h).symm
    refine br_f (nI_pos (by omega)) (br_f (nI_ge (b := 32) hc (by decide)) ⟨ic, ek_f (rn_e (rn_rA (by omega)) (b := 0) rfl (by omega) (by omega)) (fun z => ?_) (fun z => rx_to _ rfl hc ?_)⟩)
    · unfold wpY_remove
      refine ry_isc _ _ (fun w => absurd ⟨c, hc, rfl⟩ w) (fun c' hc' q => br_f (by decide) ⟨ic, ek_f (rn_e (rn_rA (by omega)) (b := 0) rfl (by omega) (by omega)) (fun _ => ⟨rfl, R0⟩) (fun w => absurd z w)⟩)
    · unfold wpY_remove
      refine ry_isc _ _ (fun w => absurd ⟨c, hc, rfl⟩ w) (fun c' hc' q => br_f (by decide) ⟨ic, ek_f (rn_e (rn_rA (by omega)) (b := 0) rfl (by omega) (by omega)) (fun w => absurd w z) (fun _ => ?_)⟩)
      rw [rn_vf]
      exact ⟨ic, nm_r (rn_uA (x := 0) (by omega)) ⟨ic, nm_r (rn_uA (x := 0) (by omega)) ⟨rfl, rl_rel ⟨⟨I.1.1, rq_mvB I.1.2.1, I.1.2.2⟩, rd_remove I.2 c⟩ hW (by omega) (by omega)⟩⟩⟩
  · have y : wpY_remove (fun r' v' => r' = 0 ∧ i_Rel (k + 5) (nI tn, rn_A ln, rn_A fm, rn_A tt, rn_A le, rn_A li, rn_A rk, rn_A we, rn_A op, rn_A ca, rn_A mk, rn_B wd, rn_B wn, rn_A pc, rn_A ph, rn_A pa, rn_A pe, rn_A pt, rn_A tp, rn_A ac, rn_A sz, rn_A dw, rn_A st, rn_A ty, rn_A ed, rn_B ps, rn_A fr, rn_A sp, rn_A go, rn_A nz, rn_B pg, rn_B cf, rn_B ct, rn_A tk, rn_A en, rn_B ch, rn_A nw, rn_A tl) v') (nI kn, nI tn, th, rn_T ln, rn_A op, rn_A fm, rn_A tt, rn_A le, rn_A ln, rn_A li, rn_A rk, rn_A we, rn_A ca, rn_A mk, rn_A fa, rn_A tp, rn_A ac, rn_A sz, rn_A dw, rn_A st, rn_A ty, rn_A ed, rn_A la, rn_A fr, rn_A sp, rn_A go, rn_A nz, rn_A tk, rn_C ch, rn_A en, rn_A nw, rn_A gr, rn_A cr, rn_A ne, rn_A nl, rn_A oe, rn_A ol, rn_A fl, rn_A pc, rn_A ph, rn_A pa, rn_A se, rn_A ls, rn_A mo, rn_A tl, gp, fs) v1 := by
      unfold wpY_remove
      exact ry_isc _ _ (fun _ => br_t rfl ⟨rfl, R0⟩) (fun c hc q => absurd ⟨c, hc, q⟩ hn)
    refine br_c (fun _ => y) (fun k0 => br_c (fun _ => y) (fun k1 => ?_))
    obtain ⟨c, hc, q⟩ := rn_16 (M := 32) (by omega) k0 k1
    exact absurd ⟨c, hc, q⟩ hn
/-! aim -/
theorem i_vc_aim {k : Nat} {u : SX} {v : SY} (I : i_Rel k u v) (hk : k + 5 ≤ 2560) (v1 : Int32) (v2 : Int32) : wpX_aim (fun r u' => wpY_aim (fun r' v' => r' = r ∧ i_Rel (k + 5) u' v') v v1 v2) u v1 v2 := by
  obtain ⟨ln, fm, tt, le, li, rk, we, op, ca, mk, wd, wn, fa, pc, ph, pa, pe, pt, se, ls, mo, tp, ac, sz, dw, st, ty, ed, fr, sp, go, nz, tk, en, ch, nw, ps, pg, cf, ct, la, gr, cr, ne, nl, oe, ol, fl, tl, tn, kn, N, th, gp, fs, rfl, rfl, I, hW, hN, hT⟩ := I
  have R0 : i_Rel (k + 5) (nI tn, rn_A ln, rn_A fm, rn_A tt, rn_A le, rn_A li, rn_A rk, rn_A we, rn_A op, rn_A ca, rn_A mk, rn_B wd, rn_B wn, rn_A pc, rn_A ph, rn_A pa, rn_A pe, rn_A pt, rn_A tp, rn_A ac, rn_A sz, rn_A dw, rn_A st, rn_A ty, rn_A ed, rn_B ps, rn_A fr, rn_A sp, rn_A go, rn_A nz, rn_B pg, rn_B cf, rn_B ct, rn_A tk, rn_A en, rn_B ch, rn_A nw, rn_A tl) (nI kn, nI tn, th, rn_T ln, rn_A op, rn_A fm, rn_A tt, rn_A le, rn_A ln, rn_A li, rn_A rk, rn_A we, rn_A ca, rn_A mk, rn_A fa, rn_A tp, rn_A ac, rn_A sz, rn_A dw, rn_A st, rn_A ty, rn_A ed, rn_A la, rn_A fr, rn_A sp, rn_A go, rn_A nz, rn_A tk, rn_C ch, rn_A en, rn_A nw, rn_A gr, rn_A cr, rn_A ne, rn_A nl, rn_A oe, rn_A ol, rn_A fl, rn_A pc, rn_A ph, rn_A pa, rn_A se, rn_A ls, rn_A mo, rn_A tl, gp, fs) := rl_rel I hW (by omega) (by omega)
  have hl : ∀ e, ln e ≤ 2 := fun e => (rI_e I.1 e).1
  rcases Classical.em (∃ c, c < 32 ∧ v1 = nI c) with ⟨c, hc, rfl⟩ | hn
  · have ic : vp_in (nI c) 32 := pk_in c 32 hc
    have A := rI_c I.1 c
    have B := rI_e I.1 (ed c)
    have P := rI_p I.1 hc
    have G0 := rI_gd I.1 c hc
    have sr : rn_A st (nI c).toNatClampNeg = nI (st c) := rn_rA (by omega)
    have er : rn_A ed (nI c).toNatClampNeg = nI (ed c) := rn_rA (by omega)
    have gr1 : rn_A go (nI c).toNatClampNeg = nI (go c) := rn_rA (by omega)
    have gg : rn_A gr (nI c).toNatClampNeg = nI (gr c) := rn_rA (by omega)
    have e0 : vp_in (nI (ed c)) 16 := vp_in_nI (by omega) (by omega)
    have rest : rn_A le (nI (ed c)).toNatClampNeg - rn_A fr (nI c).toNatClampNeg = ri_z ((le (ed c) : Int) - fr c) := by rw [rn_rA (by omega), rn_rA (by omega), ri_n, ri_n, ri_sub]
    have spr : rn_A sp (nI c).toNatClampNeg = nI (sp c) := rn_rA (by omega)
    -- Y refuses, or takes the goal
    have yref : ∀ r : Int32, r = 0 → (st c = 0 ∨ (st c = 2 ∧ gr c ≠ 0) ∨ ¬ rq_th ln v2) → wpY_aim (fun r' v' => r' = r ∧ i_Rel (k + 5) (nI tn, rn_A ln, rn_A fm, rn_A tt, rn_A le, rn_A li, rn_A rk, rn_A we, rn_A op, rn_A ca, rn_A mk, rn_B wd, rn_B wn, rn_A pc, rn_A ph, rn_A pa, rn_A pe, rn_A pt, rn_A tp, rn_A ac, rn_A sz, rn_A dw, rn_A st, rn_A ty, rn_A ed, rn_B ps, rn_A fr, rn_A sp, rn_A go, rn_A nz, rn_B pg, rn_B cf, rn_B ct, rn_A tk, rn_A en, rn_B ch, rn_A nw, rn_A tl) v') (nI kn, nI tn, th, rn_T ln, rn_A op, rn_A fm, rn_A tt, rn_A le, rn_A ln, rn_A li, rn_A rk, rn_A we, rn_A ca, rn_A mk, rn_A fa, rn_A tp, rn_A ac, rn_A sz, rn_A dw, rn_A st, rn_A ty, rn_A ed, rn_A la, rn_A fr, rn_A sp, rn_A go, rn_A nz, rn_A tk, rn_C ch, rn_A en, rn_A nw, rn_A gr, rn_A cr, rn_A ne, rn_A nl, rn_A oe, rn_A ol, rn_A fl, rn_A pc, rn_A ph, rn_A pa, rn_A se, rn_A ls, rn_A mo, rn_A tl, gp, fs) (nI c) v2 := by
      intro r hr hb
      subst hr
      unfold wpY_aim
      refine ry_isc _ _ (fun w => absurd ⟨c, hc, rfl⟩ w) (fun c' hc' q => br_f (by decide) ⟨ic, ?_⟩)
      have s35 : ¬ rq_th ln v2 → wY_aim_35 (fun r' v' => r' = 0 ∧ i_Rel (k + 5) (nI tn, rn_A ln, rn_A fm, rn_A tt, rn_A le, rn_A li, rn_A rk, rn_A we, rn_A op, rn_A ca, rn_A mk, rn_B wd, rn_B wn, rn_A pc, rn_A ph, rn_A pa, rn_A pe, rn_A pt, rn_A tp, rn_A ac, rn_A sz, rn_A dw, rn_A st, rn_A ty, rn_A ed, rn_B ps, rn_A fr, rn_A sp, rn_A go, rn_A nz, rn_B pg, rn_B cf, rn_B ct, rn_A tk, rn_A en, rn_B ch, rn_A nw, rn_A tl) v') (nI c) v2 (nI kn) (nI tn) th (rn_T ln) (rn_A op) (rn_A fm) (rn_A tt) (rn_A le) (rn_A ln) (rn_A li) (rn_A rk) (rn_A we) (rn_A ca) (rn_A mk) (rn_A fa) (rn_A tp) (rn_A ac) (rn_A sz) (rn_A dw) (rn_A st) (rn_A ty) (rn_A ed) (rn_A la) (rn_A fr) (rn_A sp) (rn_A go) (rn_A nz) (rn_A tk) (rn_C ch) (rn_A en) (rn_A nw) (rn_A gr) (rn_A cr) (rn_A ne) (rn_A nl) (rn_A oe) (rn_A ol) (rn_A fl) (rn_A pc) (rn_A ph) (rn_A pa) (rn_A se) (rn_A ls) (rn_A mo) (rn_A tl) gp fs := by
        intro w
        unfold wY_aim_35
        exact ry_ie _ _ (rb_b (fun _ => ⟨rfl, R0⟩) (fun z => absurd z w))
      rw [sr, gg]
      refine ek_f (rn_e rfl (b := 0) rfl (by omega) (by omega)) (fun _ => ⟨rfl, R0⟩) (fun z => ⟨ic, ek_f (rn_e rfl (b := 2) rfl (by omega) (by omega)) (fun z2 => ⟨ic, ek_f (rn_e rfl (b := 0) rfl (by omega) (by omega)) (fun z3 => s35 ?_) (fun _ => ⟨rfl, R0⟩)⟩) (fun z2 => s35 ?_)⟩)
      · rcases hb with w | w | w
        · exact absurd w z
        · exact absurd z3 w.2
        · exact w
      · rcases hb with w | w | w
        · exact absurd w z
        · exact absurd w.1 z2
        · exact w
    have ypre : ∀ (post : Int32 → SY → Prop), st c ≠ 0 → pg c = 0 → wY_aim_35 post (nI c) v2 (nI kn) (nI tn) th (rn_T ln) (rn_A op) (rn_A fm) (rn_A tt) (rn_A le) (rn_A ln) (rn_A li) (rn_A rk) (rn_A we) (rn_A ca) (rn_A mk) (rn_A fa) (rn_A tp) (rn_A ac) (rn_A sz) (rn_A dw) (rn_A st) (rn_A ty) (rn_A ed) (rn_A la) (rn_A fr) (rn_A sp) (rn_A go) (rn_A nz) (rn_A tk) (rn_C ch) (rn_A en) (rn_A nw) (rn_A gr) (rn_A cr) (rn_A ne) (rn_A nl) (rn_A oe) (rn_A ol) (rn_A fl) (rn_A pc) (rn_A ph) (rn_A pa) (rn_A se) (rn_A ls) (rn_A mo) (rn_A tl) gp fs → wpY_aim post (nI kn, nI tn, th, rn_T ln, rn_A op, rn_A fm, rn_A tt, rn_A le, rn_A ln, rn_A li, rn_A rk, rn_A we, rn_A ca, rn_A mk, rn_A fa, rn_A tp, rn_A ac, rn_A sz, rn_A dw, rn_A st, rn_A ty, rn_A ed, rn_A la, rn_A fr, rn_A sp, rn_A go, rn_A nz, rn_A tk, rn_C ch, rn_A en, rn_A nw, rn_A gr, rn_A cr, rn_A ne, rn_A nl, rn_A oe, rn_A ol, rn_A fl, rn_A pc, rn_A ph, rn_A pa, rn_A se, rn_A ls, rn_A mo, rn_A tl, gp, fs) (nI c) v2 := by
      intro post z z1 h
      unfold wpY_aim
      refine ry_isc _ _ (fun w => absurd ⟨c, hc, rfl⟩ w) (fun c' hc' q => br_f (by decide) ⟨ic, ?_⟩)
      rw [sr, gg]
      refine ek_f (rn_e rfl (b := 0) rfl (by omega) (by omega)) (fun w => absurd w z) (fun _ => ⟨ic, br_c (fun _ => ⟨ic, ek_f (rn_e rfl (b := 0) rfl (by omega) (by omega)) (fun _ => h) (fun w => by omega)⟩) (fun _ => h)⟩)
    refine br_f (nI_pos (by omega)) (br_f (nI_ge (b := 32) hc (by decide)) (rx_ie _ _ hl (rb_b (fun w => yref 0 rfl (Or.inr (Or.inr w))) (fun ⟨g, hg, q, hlg⟩ => ⟨ic, ?_⟩))))
    subst q
    rw [sr, er, gr1, spr]
    refine ek_f (rn_e rfl (b := 0) rfl (by omega) (by omega)) (fun w => yref 0 rfl (Or.inl w)) (fun z0 => ⟨ic, ek_f (rn_2 (rn_rB (by omega)) (b := 0) rfl (by omega) (by omega)) (fun z1 => ⟨ic, nm_e ⟨ic, ?_⟩⟩) (fun z1 => yref 0 rfl (Or.inr (Or.inl (by omega))))⟩)
    -- the goal is taken
    have take : (0 < ps c → g ≠ rd_q (ps c) → rd_D (sp c) + fr c ≤ le (rd_q (ps c))) → i_Rel (k + 5) (nI tn, rn_A ln, rn_A fm, rn_A tt, rn_A le, rn_A li, rn_A rk, rn_A we, rn_A op, rn_A ca, rn_A mk, rn_B wd, rn_B wn, rn_A pc, rn_A ph, rn_A pa, rn_A pe, rn_A pt, rn_A tp, rn_A ac, rn_A sz, rn_A dw, rn_A st, rn_A ty, rn_A ed, rn_B ps, rn_A fr, rn_A sp, rn_A (ru_p go c g), rn_A nz, rn_B pg, rn_B cf, rn_B ct, rn_A tk, rn_A en, rn_B ch, rn_A nw, rn_A tl) (nI kn, nI tn, th, rn_T ln, rn_A op, rn_A fm, rn_A tt, rn_A le, rn_A ln, rn_A li, rn_A rk, rn_A we, rn_A ca, rn_A mk, rn_A fa, rn_A tp, rn_A ac, rn_A sz, rn_A dw, rn_A st, rn_A ty, rn_A ed, rn_A la, rn_A fr, rn_A sp, rn_A (ru_p go c g), rn_A nz, rn_A tk, rn_C ch, rn_A en, rn_A nw, rn_A gr, rn_A cr, rn_A ne, rn_A nl, rn_A oe, rn_A ol, rn_A fl, rn_A pc, rn_A ph, rn_A pa, rn_A se, rn_A ls, rn_A mo, rn_A tl, gp, fs) := by
      intro h
      refine rl_rel ⟨⟨I.1.1, ⟨fun d => ?_, fun d hd => ?_⟩, I.1.2.2⟩, rd_aim I.2 z1 h⟩ hW (by omega) (by omega)
      · have a := I.1.2.1.1 d
        rcases Nat.decEq d c with w | w
        · rw [ru_n w]; exact a
        · subst w; rw [ru_s]; omega
      · obtain ⟨b1, b2, b3, b4, b5⟩ := I.1.2.1.2 d hd
        rcases Nat.decEq d c with w | w
        · rw [ru_n w]; exact ⟨b1, b2, b3, b4, b5⟩
        · subst w; rw [ru_s]; exact ⟨fun y => ⟨(b1 y).1, hlg⟩, b2, b3, b4, b5⟩
    have y84 : ∀ r : Int32, r = 1 → i_Rel (k + 5) (nI tn, rn_A ln, rn_A fm, rn_A tt, rn_A le, rn_A li, rn_A rk, rn_A we, rn_A op, rn_A ca, rn_A mk, rn_B wd, rn_B wn, rn_A pc, rn_A ph, rn_A pa, rn_A pe, rn_A pt, rn_A tp, rn_A ac, rn_A sz, rn_A dw, rn_A st, rn_A ty, rn_A ed, rn_B ps, rn_A fr, rn_A sp, rn_A (ru_p go c g), rn_A nz, rn_B pg, rn_B cf, rn_B ct, rn_A tk, rn_A en, rn_B ch, rn_A nw, rn_A tl) (nI kn, nI tn, th, rn_T ln, rn_A op, rn_A fm, rn_A tt, rn_A le, rn_A ln, rn_A li, rn_A rk, rn_A we, rn_A ca, rn_A mk, rn_A fa, rn_A tp, rn_A ac, rn_A sz, rn_A dw, rn_A st, rn_A ty, rn_A ed, rn_A la, rn_A fr, rn_A sp, rn_A (ru_p go c g), rn_A nz, rn_A tk, rn_C ch, rn_A en, rn_A nw, rn_A gr, rn_A cr, rn_A ne, rn_A nl, rn_A oe, rn_A ol, rn_A fl, rn_A pc, rn_A ph, rn_A pa, rn_A se, rn_A ls, rn_A mo, rn_A tl, gp, fs) → wY_aim_84 (fun r' v' => r' = r ∧ i_Rel (k + 5) (nI tn, rn_A ln, rn_A fm, rn_A tt, rn_A le, rn_A li, rn_A rk, rn_A we, rn_A op, rn_A ca, rn_A mk, rn_B wd, rn_B wn, rn_A pc, rn_A ph, rn_A pa, rn_A pe, rn_A pt, rn_A tp, rn_A ac, rn_A sz, rn_A dw, rn_A st, rn_A ty, rn_A ed, rn_B ps, rn_A fr, rn_A sp, rn_A (ru_p go c g), rn_A nz, rn_B pg, rn_B cf, rn_B ct, rn_A tk, rn_A en, rn_B ch, rn_A nw, rn_A tl) v') (nI c) (nI g) (nI kn) (nI tn) th (rn_T ln) (rn_A op) (rn_A fm) (rn_A tt) (rn_A le) (rn_A ln) (rn_A li) (rn_A rk) (rn_A we) (rn_A ca) (rn_A mk) (rn_A fa) (rn_A tp) (rn_A ac) (rn_A sz) (rn_A dw) (rn_A st) (rn_A ty) (rn_A ed) (rn_A la) (rn_A fr) (rn_A sp) (rn_A go) (rn_A nz) (rn_A tk) (rn_C ch) (rn_A en) (rn_A nw) (rn_A gr) (rn_A cr) (rn_A ne) (rn_A nl) (rn_A oe) (rn_A ol) (rn_A fl) (rn_A pc) (rn_A ph) (rn_A pa) (rn_A se) (rn_A ls) (rn_A mo) (rn_A tl) gp fs := by
      intro r hr h
      subst hr
      refine ⟨ic, ?_⟩
      rw [er]
      exact ⟨e0, ic, nm_e (br_t rfl ⟨ic, nm_r (rn_uA (by omega)) ⟨rfl, h⟩⟩)⟩
    have y35 : ∀ (post : Int32 → SY → Prop), (¬ (st c = 2 ∧ go c = ed c ∧ g ≠ ed c) → wY_aim_84 post (nI c) (nI g) (nI kn) (nI tn) th (rn_T ln) (rn_A op) (rn_A fm) (rn_A tt) (rn_A le) (rn_A ln) (rn_A li) (rn_A rk) (rn_A we) (rn_A ca) (rn_A mk) (rn_A fa) (rn_A tp) (rn_A ac) (rn_A sz) (rn_A dw) (rn_A st) (rn_A ty) (rn_A ed) (rn_A la) (rn_A fr) (rn_A sp) (rn_A go) (rn_A nz) (rn_A tk) (rn_C ch) (rn_A en) (rn_A nw) (rn_A gr) (rn_A cr) (rn_A ne) (rn_A nl) (rn_A oe) (rn_A ol) (rn_A fl) (rn_A pc) (rn_A ph) (rn_A pa) (rn_A se) (rn_A ls) (rn_A mo) (rn_A tl) gp fs) → ((st c = 2 ∧ go c = ed c ∧ g ≠ ed c) → wY_aim_85 post (nI c) (nI g) 1 (nI kn) (nI tn) th (rn_T ln) (rn_A op) (rn_A fm) (rn_A tt) (rn_A le) (rn_A ln) (rn_A li) (rn_A rk) (rn_A we) (rn_A ca) (rn_A mk) (rn_A fa) (rn_A tp) (rn_A ac) (rn_A sz) (rn_A dw) (rn_A st) (rn_A ty) (rn_A ed) (rn_A la) (rn_A fr) (rn_A sp) (rn_A go) (rn_A nz) (rn_A tk) (rn_C ch) (rn_A en) (rn_A nw) (rn_A gr) (rn_A cr) (rn_A ne) (rn_A nl) (rn_A oe) (rn_A ol) (rn_A fl) (rn_A pc) (rn_A ph) (rn_A pa) (rn_A se) (rn_A ls) (rn_A mo) (rn_A tl) gp fs) → wY_aim_35 post (nI c) (nI g) (nI kn) (nI tn) th (rn_T ln) (rn_A op) (rn_A fm) (rn_A tt) (rn_A le) (rn_A ln) (rn_A li) (rn_A rk) (rn_A we) (rn_A ca) (rn_A mk) (rn_A fa) (rn_A tp) (rn_A ac) (rn_A sz) (rn_A dw) (rn_A st) (rn_A ty) (rn_A ed) (rn_A la) (rn_A fr) (rn_A sp) (rn_A go) (rn_A nz) (rn_A tk) (rn_C ch) (rn_A en) (rn_A nw) (rn_A gr) (rn_A cr) (rn_A ne) (rn_A nl) (rn_A oe) (rn_A ol) (rn_A fl) (rn_A pc) (rn_A ph) (rn_A pa) (rn_A se) (rn_A ls) (rn_A mo) (rn_A tl) gp fs := by
      intro post h1 h2
      unfold wY_aim_35
      refine ry_ie _ _ (rb_b (fun w => absurd ⟨g, hg, rfl, hlg⟩ w) (fun _ => ⟨ic, ?_⟩))
      rw [sr, er, gr1]
      refine ek_f (rn_e rfl (b := 2) rfl (by omega) (by omega)) (fun y1 => ⟨ic, ic, ek_f (rn_e rfl rfl (by omega) (by omega)) (fun y2 => ⟨ic, ek_f (rn_e rfl rfl (by omega) (by omega)) (fun y3 => h1 (fun w => w.2.2 y3)) (fun y3 => h2 ⟨y1, y2.symm, y3⟩)⟩) (fun y2 => h1 (fun w => y2 w.2.1.symm))⟩) (fun y1 => h1 (fun w => y1 w.1))
    have easy : ¬ (st c = 2 ∧ go c = ed c ∧ g ≠ ed c) → (0 < ps c → g ≠ rd_q (ps c) → rd_D (sp c) + fr c ≤ le (rd_q (ps c))) := by
      intro w p0 gn
      have s2 : st c = 2 := by
        rcases Nat.decEq (st c) 2 with y | y
        · have := (P.2.2.2.2.1 y).1; omega
        · exact y
      have q1 := (rq_psE I.1.2.1 hc s2).1
      refine (I.2.2.2.1 c hc p0).1 z1 (fun y => w ⟨s2, by rw [← q1]; exact y, ?_⟩)
      rw [← q1]; exact gn
    have xgo : ∀ (post : Int32 → SX → Prop), post 1 (nI tn, rn_A ln, rn_A fm, rn_A tt, rn_A le, rn_A li, rn_A rk, rn_A we, rn_A op, rn_A ca, rn_A mk, rn_B wd, rn_B wn, rn_A pc, rn_A ph, rn_A pa, rn_A pe, rn_A pt, rn_A tp, rn_A ac, rn_A sz, rn_A dw, rn_A st, rn_A ty, rn_A ed, rn_B ps, rn_A fr, rn_A sp, rn_A (ru_p go c g), rn_A nz, rn_B pg, rn_B cf, rn_B ct, rn_A tk, rn_A en, rn_B ch, rn_A nw, rn_A tl) → vp_in (nI c) 32 ∧ ∀ a, a = upd (rn_A go) (nI c).toNatClampNeg (nI g) → post 1 (nI tn, rn_A ln, rn_A fm, rn_A tt, rn_A le, rn_A li, rn_A rk, rn_A we, rn_A op, rn_A ca, rn_A mk, rn_B wd, rn_B wn, rn_A pc, rn_A ph, rn_A pa, rn_A pe, rn_A pt, rn_A tp, rn_A ac, rn_A sz, rn_A dw, rn_A st, rn_A ty, rn_A ed, rn_B ps, rn_A fr, rn_A sp, a, rn_A nz, rn_B pg, rn_B cf, rn_B ct, rn_A tk, rn_A en, rn_B ch, rn_A nw, rn_A tl) := fun post h => ⟨ic, nm_r (rn_uA (by omega)) h⟩
    refine ek_f (rn_e rfl (b := 2) rfl (by omega) (by omega)) (fun y1 => ⟨ic, ek_f (rn_e rfl rfl (by omega) (by omega)) (fun y2 => ek_f (rn_e rfl rfl (by omega) (by omega)) (fun y3 => ?_) (fun y3 => ⟨ic, e0, ic, ?_⟩)) (fun y2 => ?_)⟩) (fun y1 => ?_)
    · have w : ¬ (st c = 2 ∧ go c = ed c ∧ g ≠ ed c) := fun w => w.2.2 y3
      exact ⟨ic, nm_r (rn_uA (by omega)) (ypre _ z0 z1 (y35 _ (fun _ => y84 1 rfl (take (easy w))) (fun v => absurd v w)))⟩
    · have q1 := (rq_psE I.1.2.1 hc y1).1
      have F := rI_fre I hc y1
      have dd := rn_D12 (sp c) (by omega)
      have y85 : ∀ (r : Int32) (X : SX) (Y : SY), ((rd_D (sp c) + fr c ≤ le (ed c)) → r = 1 ∧ i_Rel (k + 5) X (nI kn, nI tn, th, rn_T ln, rn_A op, rn_A fm, rn_A tt, rn_A le, rn_A ln, rn_A li, rn_A rk, rn_A we, rn_A ca, rn_A mk, rn_A fa, rn_A tp, rn_A ac, rn_A sz, rn_A dw, rn_A st, rn_A ty, rn_A ed, rn_A la, rn_A fr, rn_A sp, rn_A (ru_p go c g), rn_A nz, rn_A tk, rn_C ch, rn_A en, rn_A nw, rn_A gr, rn_A cr, rn_A ne, rn_A nl, rn_A oe, rn_A ol, rn_A fl, rn_A pc, rn_A ph, rn_A pa, rn_A se, rn_A ls, rn_A mo, rn_A tl, gp, fs)) → (¬ (rd_D (sp c) + fr c ≤ le (ed c)) → r = 0 ∧ i_Rel (k + 5) X (nI kn, nI tn, th, rn_T ln, rn_A op, rn_A fm, rn_A tt, rn_A le, rn_A ln, rn_A li, rn_A rk, rn_A we, rn_A ca, rn_A mk, rn_A fa, rn_A tp, rn_A ac, rn_A sz, rn_A dw, rn_A st, rn_A ty, rn_A ed, rn_A la, rn_A fr, rn_A sp, rn_A go, rn_A nz, rn_A tk, rn_C ch, rn_A en, rn_A nw, rn_A gr, rn_A cr, rn_A ne, rn_A nl, rn_A oe, rn_A ol, rn_A fl, rn_A pc, rn_A ph, rn_A pa, rn_A se, rn_A ls, rn_A mo, rn_A tl, gp, fs)) → wY_aim_85 (fun r' v' => r' = r ∧ i_Rel (k + 5) X v') (nI c) (nI g) 1 (nI kn) (nI tn) th (rn_T ln) (rn_A op) (rn_A fm) (rn_A tt) (rn_A le) (rn_A ln) (rn_A li) (rn_A rk) (rn_A we) (rn_A ca) (rn_A mk) (rn_A fa) (rn_A tp) (rn_A ac) (rn_A sz) (rn_A dw) (rn_A st) (rn_A ty) (rn_A ed) (rn_A la) (rn_A fr) (rn_A sp) (rn_A go) (rn_A nz) (rn_A tk) (rn_C ch) (rn_A en) (rn_A nw) (rn_A gr) (rn_A cr) (rn_A ne) (rn_A nl) (rn_A oe) (rn_A ol) (rn_A fl) (rn_A pc) (rn_A ph) (rn_A pa) (rn_A se) (rn_A ls) (rn_A mo) (rn_A tl) gp fs := by
        intro r X Y h1 h0
        refine ⟨ic, ?_⟩
        rw [er]
        refine ⟨e0, ic, nm_r rest (br_f (by decide) ⟨ic, ?_⟩)⟩
        rw [spr]
        refine ry_safe _ (w := 0) (by omega) (by omega) (by omega) (rb_b (fun w => ?_) (fun w => ?_))
        · have := h0 (fun v => w ⟨by omega, by rw [rd_D0]; omega⟩)
          exact ⟨this.1.symm, this.2⟩
        · have := h1 (by have := w.2; rw [rd_D0] at this; omega)
          exact ⟨ic, nm_r (rn_uA (by omega)) ⟨this.1.symm, this.2⟩⟩
      rw [rest]
      refine rx_safe _ (w := 0) (by omega) (by omega) (by omega) (rb_b (fun w => ?_) (fun w => ⟨ic, nm_r (rn_uA (by omega)) ?_⟩))
      · have nn : ¬ (rd_D (sp c) + fr c ≤ le (ed c)) := fun v => w ⟨by omega, by rw [rd_D0]; omega⟩
        exact ypre _ z0 z1 (y35 _ (fun v => absurd ⟨y1, y2, y3⟩ v) (fun _ => y85 0 _ (nI kn, nI tn, th, rn_T ln, rn_A op, rn_A fm, rn_A tt, rn_A le, rn_A ln, rn_A li, rn_A rk, rn_A we, rn_A ca, rn_A mk, rn_A fa, rn_A tp, rn_A ac, rn_A sz, rn_A dw, rn_A st, rn_A ty, rn_A ed, rn_A la, rn_A fr, rn_A sp, rn_A go, rn_A nz, rn_A tk, rn_C ch, rn_A en, rn_A nw, rn_A gr, rn_A cr, rn_A ne, rn_A nl, rn_A oe, rn_A ol, rn_A fl, rn_A pc, rn_A ph, rn_A pa, rn_A se, rn_A ls, rn_A mo, rn_A tl, gp, fs) (fun v => absurd v nn) (fun _ => ⟨rfl, R0⟩)))
      · have yy : rd_D (sp c) + fr c ≤ le (ed c) := by have := w.2; rw [rd_D0] at this; omega
        exact ypre _ z0 z1 (y35 _ (fun v => absurd ⟨y1, y2, y3⟩ v) (fun _ => y85 1 _ (nI kn, nI tn, th, rn_T ln, rn_A op, rn_A fm, rn_A tt, rn_A le, rn_A ln, rn_A li, rn_A rk, rn_A we, rn_A ca, rn_A mk, rn_A fa, rn_A tp, rn_A ac, rn_A sz, rn_A dw, rn_A st, rn_A ty, rn_A ed, rn_A la, rn_A fr, rn_A sp, rn_A go, rn_A nz, rn_A tk, rn_C ch, rn_A en, rn_A nw, rn_A gr, rn_A cr, rn_A ne, rn_A nl, rn_A oe, rn_A ol, rn_A fl, rn_A pc, rn_A ph, rn_A pa, rn_A se, rn_A ls, rn_A mo, rn_A tl, gp, fs) (fun _ => ⟨rfl, take (fun _ _ => by rw [q1]; exact yy)⟩) (fun v => absurd yy v)))
    · have w : ¬ (st c = 2 ∧ go c = ed c ∧ g ≠ ed c) := fun w => y2 w.2.1
      exact ⟨ic, nm_r (rn_uA (by omega)) (ypre _ z0 z1 (y35 _ (fun _ => y84 1 rfl (take (easy w))) (fun v => absurd v w)))⟩
    · have w : ¬ (st c = 2 ∧ go c = ed c ∧ g ≠ ed c) := fun w => y1 w.1
      exact ⟨ic, nm_r (rn_uA (by omega)) (ypre _ z0 z1 (y35 _ (fun _ => y84 1 rfl (take (easy w))) (fun v => absurd v w)))⟩
  · have y : wpY_aim (fun r' v' => r' = 0 ∧ i_Rel (k + 5) (nI tn, rn_A ln, rn_A fm, rn_A tt, rn_A le, rn_A li, rn_A rk, rn_A we, rn_A op, rn_A ca, rn_A mk, rn_B wd, rn_B wn, rn_A pc, rn_A ph, rn_A pa, rn_A pe, rn_A pt, rn_A tp, rn_A ac, rn_A sz, rn_A dw, rn_A st, rn_A ty, rn_A ed, rn_B ps, rn_A fr, rn_A sp, rn_A go, rn_A nz, rn_B pg, rn_B cf, rn_B ct, rn_A tk, rn_A en, rn_B ch, rn_A nw, rn_A tl) v') (nI kn, nI tn, th, rn_T ln, rn_A op, rn_A fm, rn_A tt, rn_A le, rn_A ln, rn_A li, rn_A rk, rn_A we, rn_A ca, rn_A mk, rn_A fa, rn_A tp, rn_A ac, rn_A sz, rn_A dw, rn_A st, rn_A ty, rn_A ed, rn_A la, rn_A fr, rn_A sp, rn_A go, rn_A nz, rn_A tk, rn_C ch, rn_A en, rn_A nw, rn_A gr, rn_A cr, rn_A ne, rn_A nl, rn_A oe, rn_A ol, rn_A fl, rn_A pc, rn_A ph, rn_A pa, rn_A se, rn_A ls, rn_A mo, rn_A tl, gp, fs) v1 v2 := by
      unfold wpY_aim
      exact ry_isc _ _ (fun _ => br_t rfl ⟨rfl, R0⟩) (fun c hc q => absurd ⟨c, hc, q⟩ hn)
    refine br_c (fun _ => y) (fun k0 => br_c (fun _ => y) (fun k1 => ?_))
    obtain ⟨c, hc, q⟩ := rn_16 (M := 32) (by omega) k0 k1
    exact absurd ⟨c, hc, q⟩ hn
