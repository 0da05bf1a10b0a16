/-! CROSSINGS: X's readers -/
theorem rn_cl {a b : Nat} {x y : Int32} (hx : x = rn_c a) (hy : y = rn_c b) (ha : a < 2147483648) (hb : b < 2147483648) : x ≤ y ↔ a ≤ b := by
  subst hx hy
  rw [rn_cz, rn_cz, Int32.le_iff_toInt_le, ri_toInt (by split <;> omega) (by split <;> omega), ri_toInt (by split <;> omega) (by split <;> omega)]
  split <;> split <;> omega
theorem ri_e {a b : Int} {x y : Int32} (hx : x = ri_z a) (hy : y = ri_z b) (ha : -2147483648 ≤ a ∧ a < 2147483648) (hb : -2147483648 ≤ b ∧ b < 2147483648) : x = y ↔ a = b := by
  subst hx hy
  exact ri_inj ha hb
theorem rq_1stE {P Q : Nat → Prop} {B : Nat → Nat → Prop} : ∀ {n : Nat}, (∀ c, c < n → (P c ↔ Q c)) → rq_1st P B n = rq_1st Q B n
  | 0, _ => rfl
  | n + 1, h => by
    have ih := rq_1stE (P := P) (Q := Q) (B := B) (n := n) (fun c hc => h c (by omega))
    have hn := h n (by omega)
    by_cases z : P n ∧ (rq_1st P B n = 0 ∨ B n (rq_1st P B n - 1))
    · rw [rq_1stP z, rq_1stP (by rw [← ih]; exact ⟨hn.mp z.1, z.2⟩)]
    · rw [rq_1stN z, rq_1stN (by rw [← ih]; exact fun w => z ⟨hn.mpr w.1, w.2⟩), ih]
section
variable {ln fm tt le li rk we op ca mk wd wn fa pc ph pa pe pt se ls mo tp ac sz dw st ty ed fr sp go nz tk en ch nw ps pg cf ct la gr cr ne nl oe ol fl tl : Nat → Nat} {tn kn N : Nat} {th : Int32} {gp fs : Nat → Int32}
theorem rI_as (I : (rq_L ln fm tt le li rk we op mk wd wn pc ph pa pe pt se ls mo tp ac sz dw st ty ed fr sp go tk en ch ps pg cf ct la gr cr ne nl oe ol fl tl tn N)) {c : Nat} (hc : c < 32) (h2 : st c = 2) : (rq_as ln) ((rq_nx wn ed go) c) (ps c) ≤ 32 ∧ (0 < (rq_nx wn ed go) c → 0 < (rq_as ln) ((rq_nx wn ed go) c) (ps c) ∧ rd_q ((rq_as ln) ((rq_nx wn ed go) c) (ps c)) = (rq_nx wn ed go) c - 1 ∧ 0 < ln ((rq_nx wn ed go) c - 1) ∧ (rq_nx wn ed go) c - 1 ≠ ed c ∧ (rq_as ln) ((rq_nx wn ed go) c) (ps c) = 2 * ((rq_nx wn ed go) c - 1) + (if ln ((rq_nx wn ed go) c - 1) = 1 then 0 else la c) + 1 ∧ (if ln ((rq_nx wn ed go) c - 1) = 1 then 0 else la c) ≤ 1) ∧ ((rq_nx wn ed go) c = 0 → (rq_as ln) ((rq_nx wn ed go) c) (ps c) = 0) := by
  obtain ⟨x1, x2⟩ := rI_nx I c
  obtain ⟨q1, q2, q3, q4, q5, q6⟩ := rq_psE I.2.1 hc h2
  rcases Nat.eq_zero_or_pos ((rq_nx wn ed go) c) with z | z
  · have : (rq_as ln) ((rq_nx wn ed go) c) (ps c) = 0 := by unfold rq_as; rw [if_pos z]
    exact ⟨by omega, fun w => by omega, fun _ => this⟩
  · obtain ⟨k1, k2⟩ := x2 z
    obtain ⟨f1, f2, f3, f4⟩ := rq_Kf k2
    have A := rI_e I ((rq_nx wn ed go) c - 1)
    obtain ⟨r1, r2, r3⟩ := rq_asE (p := ps c) z A.1 f1 q5
    have d : (rq_nx wn ed go) c - 1 ≠ ed c := by
      intro w
      rw [w] at f4 f1
      exact (rI_t I f1).1 f4
    refine ⟨by omega, fun _ => ⟨by omega, r2, f1, d, r1, by omega⟩, fun w => by omega⟩
theorem rx_sa (post : Int32 → Prop) {c : Nat} {x : Int32} (hx : x = nI c) (I : (rq_L ln fm tt le li rk we op mk wd wn pc ph pa pe pt se ls mo tp ac sz dw st ty ed fr sp go tk en ch ps pg cf ct la gr cr ne nl oe ol fl tl tn N)) (hc : c < 32) (h2 : st c = 2) (h : post (rn_c ((rq_as ln) ((rq_nx wn ed go) c) (ps c)))) : wpX_spotToAskFor post (nI tn, rn_A ln, rn_A fm, rn_A tt, rn_A le, rn_A li, rn_A rk, rn_A we, rn_A op, rn_A ca, rn_A mk, rn_B wd, rn_B wn, rn_A pc, rn_A ph, rn_A pa, rn_A pe, rn_A pt, rn_A tp, rn_A ac, rn_A sz, rn_A dw, rn_A st, rn_A ty, rn_A ed, rn_B ps, rn_A fr, rn_A sp, rn_A go, rn_A nz, rn_B pg, rn_B cf, rn_B ct, rn_A tk, rn_A en, rn_B ch, rn_A nw, rn_A tl) x := by
  subst hx
  obtain ⟨x1, x2⟩ := rI_nx I c
  obtain ⟨q1, q2, q3, q4, q5, q6⟩ := rq_psE I.2.1 hc h2
  unfold wpX_spotToAskFor
  refine rx_nx _ rfl hc (rI_ed I) (fun c => (rI_c I c).2.2.2.1) ?_
  unfold rq_as at h
  refine ek_f (rn_c2 (by omega)) (fun q => ?_) (fun q => ⟨rn_ic (by omega) x1 (by omega), ?_⟩)
  · rw [if_pos q] at h; exact h
  · rw [if_neg q] at h
    have A := rI_e I ((rq_nx wn ed go) c - 1)
    refine ek_f (rn_e (rn_Ac (by omega) (by omega)) (b := 2) rfl (by omega) (by omega)) (fun k => ⟨pk_in c 32 hc, by decide, ?_⟩) (fun k => ?_)
    · rw [if_pos k] at h
      rw [rn_rB (by omega), rn_cs q2, rn_cs (by omega), show (2 : Int32) * nI ((rq_nx wn ed go) c - 1) = nI (2 * ((rq_nx wn ed go) c - 1)) from pk_mul 2 _, show nI (ps c - 1) - nI (ps c - 1) / 2 * 2 = nI ((ps c - 1) % 2) from pk_rem (d := 2) (by omega) (by omega) (by omega), nI_add]
      exact h
    · rw [if_neg k] at h
      rw [rn_cs (by omega), show (2 : Int32) * nI ((rq_nx wn ed go) c - 1) = nI (2 * ((rq_nx wn ed go) c - 1)) from pk_mul 2 _]
      exact h
theorem rx_as (post : Int32 → Prop) {c j : Nat} {x : Int32} (hx : x = nI c) (I : (rq_L ln fm tt le li rk we op mk wd wn pc ph pa pe pt se ls mo tp ac sz dw st ty ed fr sp go tk en ch ps pg cf ct la gr cr ne nl oe ol fl tl tn N)) (hc : c < 32) (h2 : st c = 2) (hj : tt (ed c) = j) (h : post (rb_ ((rq_ask ln fm tt le mk wn pc ph pe st ed fr go ps pg) j c))) : wpX_asks post (nI tn, rn_A ln, rn_A fm, rn_A tt, rn_A le, rn_A li, rn_A rk, rn_A we, rn_A op, rn_A ca, rn_A mk, rn_B wd, rn_B wn, rn_A pc, rn_A ph, rn_A pa, rn_A pe, rn_A pt, rn_A tp, rn_A ac, rn_A sz, rn_A dw, rn_A st, rn_A ty, rn_A ed, rn_B ps, rn_A fr, rn_A sp, rn_A go, rn_A nz, rn_B pg, rn_B cf, rn_B ct, rn_A tk, rn_A en, rn_B ch, rn_A nw, rn_A tl) x := by
  subst hx
  have A := rI_c I c
  have B := rI_e I (ed c)
  have P := rI_p I hc
  obtain ⟨x1, x2⟩ := rI_nx I c
  obtain ⟨q1, q2, q3, q4, q5, q6⟩ := rq_psE I.2.1 hc h2
  obtain ⟨p1, p2⟩ := P.2.2.2.1 h2
  obtain ⟨s1, s2, s3⟩ := rI_as I hc h2
  refine ⟨pk_in c 32 hc, nm_r (rn_rA (by omega)) ⟨pk_in c 32 hc, ?_⟩⟩
  refine ek_f (rn_2 (rn_rB (by omega)) (b := 0) rfl (by omega) (by omega)) (fun k1 => ⟨pk_in c 32 hc, ?_⟩) (fun k1 => rb_p0 h (fun w => k1 w.2.2.1))
  refine ek_f (rn_e (rn_rA (by omega)) (b := ed c) rfl (by omega) (by omega)) (fun k2 => rb_p0 h (fun w => w.2.2.2.1 k2)) (fun k2 => ⟨vp_in_nI (by omega) (by omega), pk_in c 32 hc, ?_⟩)
  refine ek_f (ri_t (ri_n 40) (b := (le (ed c) : Int) - fr c) (by rw [rn_rA (by omega), rn_rA (by omega), ri_n, ri_n, ri_sub]) (by omega) (by omega)) (fun k3 => rb_p0 h (fun w => by have := w.2.2.2.2.1; omega)) (fun k3 => ?_)
  refine rx_gn _ rfl I.1 I.2.2.1 A.2.2.1 (rb_b (fun k4 => rb_p0 h (fun w => k4 w.2.2.2.2.2.1)) (fun k4 => ?_))
  refine rx_nx _ rfl hc (rI_ed I) (fun c => (rI_c I c).2.2.2.1) ⟨pk_in c 32 hc, ?_⟩
  refine rx_ld _ (s := ps c - 1) (by rw [rn_rB (by omega), rn_cs q2]) rfl I.1 (by omega) x1 (rb_b (fun k5 => rb_p0 h (fun w => k5 ⟨w.2.2.2.2.2.2.1, w.2.2.2.2.2.2.2.1⟩)) (fun k5 => ⟨pk_in c 32 hc, pk_in c 32 hc, ?_⟩))
  have ep : ps c - 1 + 1 = ps c := by omega
  refine rx_nb _ (s := ps c - 1) (by rw [rn_rB (by omega), rn_cs q2]) (rn_rA (by omega)) (by omega) (by omega) (rI_ps I) (rI_fr I) ?_
  rw [ep]
  have L := rd_nrL (ps := ps) (fr := fr) (s := ps c) (p := fr c) 32
  refine ek_f (rn_c2 (by omega)) (fun k6 => rb_p1 h ⟨h2, hj, k1, k2, by omega, k4, k5.1, k5.2, Or.inl k6⟩) (fun k6 => ⟨rn_ic (by omega) L (by omega), rx_sa _ rfl I hc h2 ?_⟩)
  have G := rI_pg I ((rd_nr ps fr) (ps c) (fr c) 32 - 1) (by omega)
  exact ek_f (rn_2 (rn_Bc (by omega) (by omega)) rfl (by omega) (by omega)) (fun k7 => rb_p1 h ⟨h2, hj, k1, k2, by omega, k4, k5.1, k5.2, Or.inr k7⟩) (fun k7 => rb_p0 h (fun w => w.2.2.2.2.2.2.2.2.elim k6 k7))
theorem rx_ak (post : Int32 → Prop) {j : Nat} {x : Int32} (hx : x = nI j) (I : (rq_L ln fm tt le li rk we op mk wd wn pc ph pa pe pt se ls mo tp ac sz dw st ty ed fr sp go tk en ch ps pg cf ct la gr cr ne nl oe ol fl tl tn N)) (hj : j < 8) (H : ∀ y, (∀ c, c < 32 → (bt y c = true ↔ (rq_ask ln fm tt le mk wn pc ph pe st ed fr go ps pg) j c)) → post y) : wpX_askersAt post (nI tn, rn_A ln, rn_A fm, rn_A tt, rn_A le, rn_A li, rn_A rk, rn_A we, rn_A op, rn_A ca, rn_A mk, rn_B wd, rn_B wn, rn_A pc, rn_A ph, rn_A pa, rn_A pe, rn_A pt, rn_A tp, rn_A ac, rn_A sz, rn_A dw, rn_A st, rn_A ty, rn_A ed, rn_B ps, rn_A fr, rn_A sp, rn_A go, rn_A nz, rn_B pg, rn_B cf, rn_B ct, rn_A tk, rn_A en, rn_B ch, rn_A nw, rn_A tl) x := by
  subst hx
  refine loop_0 (fun n i (y : Int32) => wX_askersAt_4 post (nI j) (nI tn) (rn_A ln) (rn_A fm) (rn_A tt) (rn_A le) (rn_A li) (rn_A rk) (rn_A we) (rn_A op) (rn_A ca) (rn_A mk) (rn_B wd) (rn_B wn) (rn_A pc) (rn_A ph) (rn_A pa) (rn_A pe) (rn_A pt) (rn_A tp) (rn_A ac) (rn_A sz) (rn_A dw) (rn_A st) (rn_A ty) (rn_A ed) (rn_B ps) (rn_A fr) (rn_A sp) (rn_A go) (rn_A nz) (rn_B pg) (rn_B cf) (rn_B ct) (rn_A tk) (rn_A en) (rn_B ch) (rn_A nw) (rn_A tl) n y (nI i)) (fun i y => ∀ c, c < 32 → (bt y c = true ↔ c < i ∧ (rq_ask ln fm tt le mk wn pc ph pe st ed fr go ps pg) j c)) 32 0 (fun c _ => by rw [b_0]; exact ⟨fun w => absurd w (by decide), fun w => absurd w.1 (Nat.not_lt_zero c)⟩) ?_ ?_
  · intro n y k
    exact br_t (by decide) (H y (fun c hc => ⟨fun w => ((k c hc).mp w).2, fun w => (k c hc).mpr ⟨hc, w⟩⟩))
  · intro n i y hi k ih
    have A := rI_c I i
    have B := rI_e I (ed i)
    have no : ¬ (rq_ask ln fm tt le mk wn pc ph pe st ed fr go ps pg) j i → ∀ c, c < 32 → (bt y c = true ↔ c < i + 1 ∧ (rq_ask ln fm tt le mk wn pc ph pe st ed fr go ps pg) j c) := by
      intro w c hc
      rw [k c hc]
      constructor
      · rintro ⟨a, b⟩; exact ⟨by omega, b⟩
      · rintro ⟨a, b⟩
        rcases Nat.decEq c i with q | q
        · exact ⟨by omega, b⟩
        · subst q; exact absurd b w
    refine pk_le 32 i (fun z => by omega) (fun _ => ⟨pk_in i 32 hi, ?_⟩)
    refine ek_f (rn_e (rn_rA (by omega)) (b := 2) rfl (by omega) (by omega)) (fun e1 => ⟨pk_in i 32 hi, rn_iA (by omega) A.2.2.1 (by omega), ?_⟩) (fun e1 => nm_r (nI_1 i) (ih y (no (fun w => e1 w.1))))
    refine ek_f (rn_e (rn_AA (by omega) (by omega)) (b := j) rfl (by omega) (by omega)) (fun e2 => ?_) (fun e2 => nm_r (nI_1 i) (ih y (no (fun w => e2 w.2.1))))
    refine rx_as _ rfl I hi e1 e2 (rb_b (fun e3 => nm_r (nI_1 i) (ih y (no e3))) (fun e3 => nm_e (nm_r (nI_1 i) (ih _ (fun c hc => ?_)))))
    rw [rd_sto y hi hc, Bool.or_eq_true, decide_eq_true_iff, k c hc]
    constructor
    · rintro (⟨a, b⟩ | a)
      · exact ⟨by omega, b⟩
      · subst a; exact ⟨by omega, e3⟩
    · rintro ⟨a, b⟩
      rcases Nat.decEq c i with q | q
      · exact Or.inl ⟨by omega, b⟩
      · exact Or.inr q
theorem rx_bf (post : Int32 → Prop) {c d : Nat} {x y : Int32} (hx : x = nI c) (hy : y = nI d) (I : (rq_L ln fm tt le li rk we op mk wd wn pc ph pa pe pt se ls mo tp ac sz dw st ty ed fr sp go tk en ch ps pg cf ct la gr cr ne nl oe ol fl tl tn N)) (hc : c < 32) (hd : d < 32) (h : post (rb_ ((rq_bf rk le ed fr ps) c d))) : wpX_standsBefore post (nI tn, rn_A ln, rn_A fm, rn_A tt, rn_A le, rn_A li, rn_A rk, rn_A we, rn_A op, rn_A ca, rn_A mk, rn_B wd, rn_B wn, rn_A pc, rn_A ph, rn_A pa, rn_A pe, rn_A pt, rn_A tp, rn_A ac, rn_A sz, rn_A dw, rn_A st, rn_A ty, rn_A ed, rn_B ps, rn_A fr, rn_A sp, rn_A go, rn_A nz, rn_B pg, rn_B cf, rn_B ct, rn_A tk, rn_A en, rn_B ch, rn_A nw, rn_A tl) x y := by
  subst hx hy
  have A := rI_c I c
  have A' := rI_c I d
  have B := rI_e I (ed c)
  have B' := rI_e I (ed d)
  have P := rI_ps I c hc
  have P' := rI_ps I d hd
  refine ⟨pk_in c 32 hc, nm_r (rn_rA (by omega)) ⟨pk_in d 32 hd, nm_r (rn_rA (by omega)) ⟨vp_in_nI (by omega) (by omega), vp_in_nI (by omega) (by omega), ?_⟩⟩⟩
  refine ek_f (rn_e (rn_rA (by omega)) (rn_rA (by omega)) (by omega) (by omega)) (fun k1 => ⟨vp_in_nI (by omega) (by omega), pk_in c 32 hc, nm_r (e' := ri_z ((le (ed c) : Int) - fr c)) (by rw [rn_rA (by omega), rn_rA (by omega), ri_n, ri_n, ri_sub]) ⟨vp_in_nI (by omega) (by omega), pk_in d 32 hd, nm_r (e' := ri_z ((le (ed d) : Int) - fr d)) (by rw [rn_rA (by omega), rn_rA (by omega), ri_n, ri_n, ri_sub]) ?_⟩⟩) (fun k1 => ⟨vp_in_nI (by omega) (by omega), vp_in_nI (by omega) (by omega), ?_⟩)
  · refine ek_f (ri_e rfl rfl (by omega) (by omega)) (fun k2 => ⟨pk_in c 32 hc, pk_in d 32 hd, ?_⟩) (fun k2 => ?_)
    · exact ek_f (rn_cl (rn_rB (by omega)) (rn_rB (by omega)) (by omega) (by omega)) (fun k3 => rb_p0 h (fun w => by unfold rq_bf at w; omega)) (fun k3 => rb_p1 h (Or.inr ⟨k1, Or.inr ⟨by omega, by omega⟩⟩))
    · exact ek_f (ri_l rfl rfl (by omega) (by omega)) (fun k3 => rb_p0 h (fun w => by unfold rq_bf at w; omega)) (fun k3 => rb_p1 h (Or.inr ⟨k1, Or.inl (by omega)⟩))
  · exact pk_le (rk (ed c)) (rk (ed d)) (fun k3 => rb_p0 h (fun w => by unfold rq_bf at w; omega)) (fun k3 => rb_p1 h (Or.inl k3)) (rn_rA (by omega)) (rn_rA (by omega))
/-- the gap up to the END -/
def rq_ge (le ed fr go : Nat → Nat) (s c : Nat) : Int := if s = 0 then (if go c = ed c then 1000 else (le (ed c) : Int) - fr c) else (if go c = rd_q s then 1000 else (le (ed c) : Int) - fr c + le (rd_q s))
theorem rx_ge (post : Int32 → Prop) {c s : Nat} {x y : Int32} (hx : x = nI c) (hy : y = rn_c s) (I : (rq_L ln fm tt le li rk we op mk wd wn pc ph pa pe pt se ls mo tp ac sz dw st ty ed fr sp go tk en ch ps pg cf ct la gr cr ne nl oe ol fl tl tn N)) (hc : c < 32) (hs : s ≤ 32) (h : post (ri_z (rq_ge le ed fr go s c))) : wpX_gapToEnd post (nI tn, rn_A ln, rn_A fm, rn_A tt, rn_A le, rn_A li, rn_A rk, rn_A we, rn_A op, rn_A ca, rn_A mk, rn_B wd, rn_B wn, rn_A pc, rn_A ph, rn_A pa, rn_A pe, rn_A pt, rn_A tp, rn_A ac, rn_A sz, rn_A dw, rn_A st, rn_A ty, rn_A ed, rn_B ps, rn_A fr, rn_A sp, rn_A go, rn_A nz, rn_B pg, rn_B cf, rn_B ct, rn_A tk, rn_A en, rn_B ch, rn_A nw, rn_A tl) x y := by
  subst hx hy
  have A := rI_c I c
  have B := rI_e I (ed c)
  unfold rq_ge at h
  refine ⟨pk_in c 32 hc, nm_r (rn_rA (by omega)) ?_⟩
  refine ek_f (rn_c2 (by omega)) (fun k1 => ⟨pk_in c 32 hc, ?_⟩) (fun k1 => ⟨by decide, ?_⟩)
  · rw [if_pos k1] at h
    refine ek_f (rn_e (rn_rA (by omega)) rfl (by omega) (by omega)) (fun k2 => by rw [if_pos k2] at h; exact h) (fun k2 => ⟨vp_in_nI (by omega) (by omega), pk_in c 32 hc, nm_r (e' := ri_z ((le (ed c) : Int) - fr c)) (by rw [rn_rA (by omega), rn_rA (by omega), ri_n, ri_n, ri_sub]) ?_⟩)
    rw [if_neg k2] at h
    exact br_t ((rn_c2 (by omega)).mpr k1) h
  · rw [if_neg k1] at h
    have q6 : rd_q s < 16 := by unfold rd_q; omega
    have C := rI_e I (rd_q s)
    have e2 : rn_c s / 2 = nI (rd_q s) := by
      rw [rn_cs (by omega)]
      exact pk_div (d := 2) (by omega) (by omega) (by omega)
    rw [e2]
    refine ⟨pk_in c 32 hc, ek_f (rn_e (rn_rA (by omega)) rfl (by omega) (by omega)) (fun k2 => by rw [if_pos k2] at h; exact h) (fun k2 => ⟨vp_in_nI (by omega) (by omega), pk_in c 32 hc, nm_r (e' := ri_z ((le (ed c) : Int) - fr c)) (by rw [rn_rA (by omega), rn_rA (by omega), ri_n, ri_n, ri_sub]) ?_⟩)⟩
    rw [if_neg k2] at h
    refine br_f (fun w => k1 ((rn_c2 (by omega)).mp w)) ⟨vp_in_nI q6 (by omega), ?_⟩
    rw [rn_rA (by omega), ri_n, ri_add]
    exact h
/-- the one AHEAD, by its code -/
def rq_le (fr ps : Nat → Nat) (s c : Nat) : Nat := if rd_nr ps fr (ps c) (fr c) 32 = 0 then (if s = 0 then 0 else rd_nr ps fr s 0 32) else rd_nr ps fr (ps c) (fr c) 32
theorem rx_le (post : Int32 → Prop) {c s : Nat} {x y : Int32} (hx : x = nI c) (hy : y = rn_c s) (I : (rq_L ln fm tt le li rk we op mk wd wn pc ph pa pe pt se ls mo tp ac sz dw st ty ed fr sp go tk en ch ps pg cf ct la gr cr ne nl oe ol fl tl tn N)) (hc : c < 32) (h2 : st c = 2) (hs : s ≤ 32) (h : post (rn_c (rq_le fr ps s c))) : wpX_leaderOf post (nI tn, rn_A ln, rn_A fm, rn_A tt, rn_A le, rn_A li, rn_A rk, rn_A we, rn_A op, rn_A ca, rn_A mk, rn_B wd, rn_B wn, rn_A pc, rn_A ph, rn_A pa, rn_A pe, rn_A pt, rn_A tp, rn_A ac, rn_A sz, rn_A dw, rn_A st, rn_A ty, rn_A ed, rn_B ps, rn_A fr, rn_A sp, rn_A go, rn_A nz, rn_B pg, rn_B cf, rn_B ct, rn_A tk, rn_A en, rn_B ch, rn_A nw, rn_A tl) x y := by
  subst hx hy
  have A := rI_c I c
  obtain ⟨q1, q2, q3, q4, q5, q6⟩ := rq_psE I.2.1 hc h2
  unfold rq_le at h
  refine ⟨pk_in c 32 hc, pk_in c 32 hc, rx_nb _ (s := ps c - 1) (by rw [rn_rB (by omega), rn_cs q2]) (rn_rA (by omega)) (by omega) (by omega) (rI_ps I) (rI_fr I) ?_⟩
  have ep : ps c - 1 + 1 = ps c := by omega
  rw [ep]
  have L := rd_nrL (ps := ps) (fr := fr) (s := ps c) (p := fr c) 32
  refine ek_f (rn_c2 (by omega)) (fun k1 => ?_) (fun k1 => by rw [if_neg k1] at h; exact h)
  rw [if_pos k1] at h
  refine ek_f (rn_c2 (by omega)) (fun k2 => by rw [if_pos k2] at h; rw [k1]; exact h) (fun k2 => ?_)
  rw [if_neg k2] at h
  refine rx_nb _ (s := s - 1) (p := 0) (rn_cs (by omega)) rfl (by omega) (by omega) (rI_ps I) (rI_fr I) ?_
  rw [show s - 1 + 1 = s by omega]
  exact h
end
