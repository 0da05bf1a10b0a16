/-! CROSSINGS: Y's CAN and the first that can -/
def rq_R (v : Nat) (g w : Int32) : Prop := 0 ≤ g.toInt ∧ (rd_D v : Int) ≤ g.toInt + rd_D w.toNatClampNeg
def rq_Sh (g w : Int32) : Prop := ∃ (a : Int) (b : Nat), g = ri_z a ∧ w = nI b ∧ (-100000 < a ∧ a < 100000) ∧ b < 64
theorem rq_RE {v b : Nat} {a : Int} (ha : -100000 < a ∧ a < 100000) (hb : b < 64) : rq_R v (ri_z a) (nI b) ↔ (0 ≤ a ∧ (rd_D v : Int) ≤ a + rd_D b) := by
  unfold rq_R
  rw [ri_toInt (by omega) (by omega), nI_clamp (by omega)]
section
variable {ln fm tt le li rk we op ca mk wd wn fa pc ph pa pe pt se ls mo tp ac sz dw st ty ed fr sp go nz tk en ch nw ps pg cf ct la gr cr ne nl oe ol fl tl : Nat → Nat} {tn kn N : Nat} {th : Int32} {gp fs : Nat → Int32}
theorem ry_als (post : Int32 → Prop) {t v : Nat} {x : Int32} (hx : x = nI v) (ht : t ≤ 2) (hv : v < 64) (hs : ∀ k, k < t → rq_Sh (gp k) (fs k)) (h : post (rb_ (∀ k, k < t → rq_R v (gp k) (fs k)))) : wpY_allSafe post (nI kn, nI tn, nI t, rn_T ln, rn_A op, rn_A fm, rn_A tt, rn_A le, rn_A ln, rn_A li, rn_A rk, rn_A we, rn_A ca, rn_A mk, rn_A fa, rn_A tp, rn_A ac, rn_A sz, rn_A dw, rn_A st, rn_A ty, rn_A ed, rn_A la, rn_A fr, rn_A sp, rn_A go, rn_A nz, rn_A tk, rn_C ch, rn_A en, rn_A nw, rn_A gr, rn_A cr, rn_A ne, rn_A nl, rn_A oe, rn_A ol, rn_A fl, rn_A pc, rn_A ph, rn_A pa, rn_A se, rn_A ls, rn_A mo, rn_A tl, gp, fs) x := by
  subst hx
  refine loop_0 (fun n i (_ : Unit) => wY_allSafe_2 post (nI v) (nI kn) (nI tn) (nI t) (rn_T ln) (rn_A op) (rn_A fm) (rn_A tt) (rn_A le) (rn_A ln) (rn_A li) (rn_A rk) (rn_A we) (rn_A ca) (rn_A mk) (rn_A fa) (rn_A tp) (rn_A ac) (rn_A sz) (rn_A dw) (rn_A st) (rn_A ty) (rn_A ed) (rn_A la) (rn_A fr) (rn_A sp) (rn_A go) (rn_A nz) (rn_A tk) (rn_C ch) (rn_A en) (rn_A nw) (rn_A gr) (rn_A cr) (rn_A ne) (rn_A nl) (rn_A oe) (rn_A ol) (rn_A fl) (rn_A pc) (rn_A ph) (rn_A pa) (rn_A se) (rn_A ls) (rn_A mo) (rn_A tl) gp fs n (nI i)) (fun i _ => ∀ k, k < i → rq_R v (gp k) (fs k)) t () (fun k hk => absurd hk (Nat.not_lt_zero k)) ?_ ?_
  · intro n _ e
    exact br_t (nI_le (Nat.le_refl _) (by omega)) (rb_p1 h e)
  · intro n i _ hi e ih
    obtain ⟨a, b, ea, eb, ha, hb⟩ := hs i hi
    refine br_f (nI_ge hi (by omega)) ⟨pk_in i 2 (by omega), pk_in i 2 (by omega), ?_⟩
    rw [nI_clamp (by omega), ea, eb]
    refine ry_safe _ hv hb ha ?_
    rw [← rb_e (rq_RE ha hb)]
    refine rb_b (fun k => rb_p0 h (fun w => k (by have := w i hi; rw [ea, eb] at this; exact this))) (fun k => nm_r (nI_1 i) (ih () (lt_s e (by rw [ea, eb]; exact k))))
/-- all things have their shape -/
theorem rq_LdS (I : (rq_L ln fm tt le li rk we op mk wd wn pc ph pa pe pt se ls mo tp ac sz dw st ty ed fr sp go tk en ch ps pg cf ct la gr cr ne nl oe ol fl tl tn N)) {s c : Nat} (hc : c < 32) (h2 : st c = 2) (hs : s ≤ 32) (hq : 0 < s → rd_q s ≠ ed c) : rq_Ld le ty sz ed fr sp ps s c rq_Sh := by
  intro a ha
  obtain ⟨a1, a2, a3⟩ := rI_leC I hc h2 hs hq ha
  have A := rI_c I c
  have B := rI_e I (ed c)
  have D := rI_c I a
  have U := rI_y I a
  exact ⟨fun _ => ⟨_, _, rfl, rfl, by omega, by omega⟩, fun _ => ⟨_, _, rfl, rfl, by omega, by omega⟩⟩
theorem rq_EnS (I : (rq_L ln fm tt le li rk we op mk wd wn pc ph pa pe pt se ls mo tp ac sz dw st ty ed fr sp go tk en ch ps pg cf ct la gr cr ne nl oe ol fl tl tn N)) {f c : Nat} : rq_En le ed fr go f c rq_Sh := by
  have A := rI_c I c
  have B := rI_e I (ed c)
  have C := rI_e I (f - 1)
  exact ⟨fun _ _ => ⟨_, 0, rfl, rfl, by omega, by omega⟩, fun _ _ => ⟨_, 0, rfl, rfl, by omega, by omega⟩⟩
/-- SAFE, by the things -/
theorem rq_csT (I : (rq_I ln fm tt le li rk we op mk wd wn pc ph pa pe pt se ls mo tp ac sz dw st ty ed fr sp go tk en ch ps pg cf ct la gr cr ne nl oe ol fl tl tn N)) {s n c : Nat} (hc : c < 32) (h2 : st c = 2) (hs : s ≤ 32) (s0 : 0 < s) (hn : 0 < n) (hqn : rd_q s = n - 1) (hne : n - 1 ≠ ed c) : (rq_Ld le ty sz ed fr sp ps s c (rq_R (sp c)) ∧ rq_En le ed fr go n c (rq_R (sp c))) ↔ (rq_cs le ed fr sp go ps (fun x => sz (ty x))) s c := by
  have A := rI_c I.1 c
  have B := rI_e I.1 (ed c)
  have C := rI_e I.1 (n - 1)
  have F := rI_fre I hc h2
  have hq : 0 < s → rd_q s ≠ ed c := fun _ => by rw [hqn]; exact hne
  rw [rq_csE s0, hqn]
  have e0 : rq_R (sp c) (ri_z ((le (ed c) : Int) - fr c + le (n - 1))) 0 ↔ rd_D (sp c) + fr c ≤ le (ed c) + le (n - 1) := by
    have := rq_RE (v := sp c) (b := 0) (a := (le (ed c) : Int) - fr c + le (n - 1)) (by omega) (by omega)
    rw [show (0 : Int32) = nI 0 from rfl, this, rd_D0]
    omega
  have ee : rq_En le ed fr go n c (rq_R (sp c)) ↔ (go c ≠ n - 1 → rd_D (sp c) + fr c ≤ le (ed c) + le (n - 1)) :=
    ⟨fun w z => e0.mp (w.2 hn z), fun w => ⟨fun z => by omega, fun _ z => e0.mpr (w z)⟩⟩
  rw [ee]
  have el : rq_Ld le ty sz ed fr sp ps s c (rq_R (sp c)) ↔ (∀ a, rq_le fr ps s c = a + 1 → ((rd_nr ps fr) (ps c) (fr c) 32 = a + 1 → rd_Fo (fr c) (sp c) (fr a) (sp a) (sz (ty a))) ∧ ((rd_nr ps fr) (ps c) (fr c) 32 = 0 → rd_Fo (fr c) (sp c) (fr a + le (ed c)) (sp a) (sz (ty a)))) := by
    have key : ∀ a, rq_le fr ps s c = a + 1 → (rq_R (sp c) (ri_z ((fr a : Int) - sz (ty a) - 1 - fr c)) (nI (sp a)) ↔ rd_Fo (fr c) (sp c) (fr a) (sp a) (sz (ty a))) ∧ (rq_R (sp c) (ri_z ((fr a : Int) - sz (ty a) - 1 - fr c + le (ed c))) (nI (sp a)) ↔ rd_Fo (fr c) (sp c) (fr a + le (ed c)) (sp a) (sz (ty a))) := by
      intro a ha
      have D := rI_c I.1 a
      have U := rI_y I.1 a
      exact ⟨(rq_RE (by omega) (by omega)).trans rd_FoZ, (rq_RE (by omega) (by omega)).trans rd_FoY⟩
    constructor
    · intro w a ha
      obtain ⟨a1, a2, a3⟩ := rI_leC I.1 hc h2 hs hq ha
      rcases a3 with ⟨z1, z2⟩ | ⟨z1, z2, _⟩
      · exact ⟨fun _ => (key a ha).1.mp ((w a ha).1 z1), fun y => by omega⟩
      · exact ⟨fun y => by omega, fun _ => (key a ha).2.mp ((w a ha).2 z1)⟩
    · intro w a ha
      obtain ⟨a1, a2, a3⟩ := rI_leC I.1 hc h2 hs hq ha
      rcases a3 with ⟨z1, z2⟩ | ⟨z1, z2, _⟩
      · exact ⟨fun _ => (key a ha).1.mpr ((w a ha).1 z2), fun y => absurd z1 y⟩
      · exact ⟨fun y => absurd y z1, fun _ => (key a ha).2.mpr ((w a ha).2 z2)⟩
  rw [el]
  exact ⟨fun w => ⟨w.2, w.1⟩, fun w => ⟨w.2, w.1⟩⟩
theorem ry_c235 (post : Int32 → SY → Prop) {c j : Nat} {P : Prop} (I : (rq_L ln fm tt le li rk we op mk wd wn pc ph pa pe pt se ls mo tp ac sz dw st ty ed fr sp go tk en ch ps pg cf ct la gr cr ne nl oe ol fl tl tn N)) (hc : c < 32) (h2 : st c = 2) (hj : j < 8) (hp : P ↔ ∀ b, b < 32 → (rq_ask ln fm tt le mk wn pc ph pe st ed fr go ps pg) j b → ps b ≠ ps c → ¬ (rq_bf rk le ed fr ps) b c) (H : ∀ kn fa, (rq_WY ln fm tt le li we op mk fa kn) → post (rb_ P) (nI kn, nI tn, th, rn_T ln, rn_A op, rn_A fm, rn_A tt, rn_A le, rn_A ln, rn_A li, rn_A rk, rn_A we, rn_A ca, rn_A mk, rn_A fa, rn_A tp, rn_A ac, rn_A sz, rn_A dw, rn_A st, rn_A ty, rn_A ed, rn_A la, rn_A fr, rn_A sp, rn_A go, rn_A nz, rn_A tk, rn_C ch, rn_A en, rn_A nw, rn_A gr, rn_A cr, rn_A ne, rn_A nl, rn_A oe, rn_A ol, rn_A fl, rn_A pc, rn_A ph, rn_A pa, rn_A se, rn_A ls, rn_A mo, rn_A tl, gp, fs)) : ∀ n i kn fa, i ≤ 32 → 32 - i < n → (rq_WY ln fm tt le li we op mk fa kn) → (∀ b, b < i → (rq_ask ln fm tt le mk wn pc ph pe st ed fr go ps pg) j b → ps b ≠ ps c → ¬ (rq_bf rk le ed fr ps) b c) → wY_can_235 post (nI c) (nI j) 1 n (nI i) (nI kn) (nI tn) th (rn_T ln) (rn_A op) (rn_A fm) (rn_A tt) (rn_A le) (rn_A ln) (rn_A li) (rn_A rk) (rn_A we) (rn_A ca) (rn_A mk) (rn_A fa) (rn_A tp) (rn_A ac) (rn_A sz) (rn_A dw) (rn_A st) (rn_A ty) (rn_A ed) (rn_A la) (rn_A fr) (rn_A sp) (rn_A go) (rn_A nz) (rn_A tk) (rn_C ch) (rn_A en) (rn_A nw) (rn_A gr) (rn_A cr) (rn_A ne) (rn_A nl) (rn_A oe) (rn_A ol) (rn_A fl) (rn_A pc) (rn_A ph) (rn_A pa) (rn_A se) (rn_A ls) (rn_A mo) (rn_A tl) gp fs := by
  intro n
  induction n with
  | zero => intro i kn fa h1 h2; omega
  | succ n ih =>
    intro i kn fa hi hin hW e
    refine pk_le 32 i (fun z => rb_q1 (H kn fa hW) (hp.mpr (fun b hb => e b (by omega)))) (fun z => br_f (by decide) (ry_as _ rfl rfl I hW z hj (fun kn fa hW' => ?_)))
    have nxt : ((rq_ask ln fm tt le mk wn pc ph pe st ed fr go ps pg) j i → ps i ≠ ps c → ¬ (rq_bf rk le ed fr ps) i c) → wY_can_235 post (nI c) (nI j) 1 n (nI (i + 1)) (nI kn) (nI tn) th (rn_T ln) (rn_A op) (rn_A fm) (rn_A tt) (rn_A le) (rn_A ln) (rn_A li) (rn_A rk) (rn_A we) (rn_A ca) (rn_A mk) (rn_A fa) (rn_A tp) (rn_A ac) (rn_A sz) (rn_A dw) (rn_A st) (rn_A ty) (rn_A ed) (rn_A la) (rn_A fr) (rn_A sp) (rn_A go) (rn_A nz) (rn_A tk) (rn_C ch) (rn_A en) (rn_A nw) (rn_A gr) (rn_A cr) (rn_A ne) (rn_A nl) (rn_A oe) (rn_A ol) (rn_A fl) (rn_A pc) (rn_A ph) (rn_A pa) (rn_A se) (rn_A ls) (rn_A mo) (rn_A tl) gp fs := fun w => ih (i + 1) kn fa (by omega) (by omega) hW' (lt_s e w)
    refine rb_b (fun k1 => br_t rfl (nm_r (nI_1 i) (nxt (fun w => absurd w k1)))) (fun k1 => ⟨pk_in i 32 z, pk_in c 32 hc, ?_⟩)
    have s2 := k1.1
    have A := rI_c I i
    have A' := rI_c I c
    have P1 := ((rI_p I hc).2.2.2.1 h2).1
    have P2 := ((rI_p I z).2.2.2.1 s2).1
    have s289 : ps i ≠ ps c → wY_can_289 post (wY_can_235 post (nI c) (nI j) 1 n) (nI c) (nI j) 1 (nI i) (nI kn) (nI tn) th (rn_T ln) (rn_A op) (rn_A fm) (rn_A tt) (rn_A le) (rn_A ln) (rn_A li) (rn_A rk) (rn_A we) (rn_A ca) (rn_A mk) (rn_A fa) (rn_A tp) (rn_A ac) (rn_A sz) (rn_A dw) (rn_A st) (rn_A ty) (rn_A ed) (rn_A la) (rn_A fr) (rn_A sp) (rn_A go) (rn_A nz) (rn_A tk) (rn_C ch) (rn_A en) (rn_A nw) (rn_A gr) (rn_A cr) (rn_A ne) (rn_A nl) (rn_A oe) (rn_A ol) (rn_A fl) (rn_A pc) (rn_A ph) (rn_A pa) (rn_A se) (rn_A ls) (rn_A mo) (rn_A tl) gp fs := fun w => br_f (by decide) (ry_bf _ rfl rfl I z hc s2 h2 (rb_b (fun q => nm_r (nI_1 i) (nxt (fun _ _ => q))) (fun q => rb_q0 (H kn fa hW') (fun v => (hp.mp v) i z k1 w q))))
    refine ek_f (rn_e (rn_rA (by omega)) (rn_rA (by omega)) (by omega) (by omega)) (fun k2 => ⟨pk_in i 32 z, pk_in c 32 hc, ?_⟩) (fun k2 => s289 (by omega))
    exact ek_f (rn_e (rn_rA (by omega)) (rn_rA (by omega)) (by omega) (by omega)) (fun k3 => br_t rfl (nm_r (nI_1 i) (nxt (fun _ w => absurd (by omega) w)))) (fun k3 => s289 (by omega))
theorem ry_c61 (post : Int32 → SY → Prop) {c j n l s : Nat} (I : (rq_I ln fm tt le li rk we op mk wd wn pc ph pa pe pt se ls mo tp ac sz dw st ty ed fr sp go tk en ch ps pg cf ct la gr cr ne nl oe ol fl tl tn N)) (hW : (rq_WY ln fm tt le li we op mk fa kn)) (hc : c < 32) (h2 : st c = 2) (hj : j < 8) (hn : n < 16) (hl : l ≤ 1) (hs : s = 2 * n + l + 1) (H : ∀ kn fa, (rq_WY ln fm tt le li we op mk fa kn) → post (rb_ ((rq_mh fm tt rk le ed fr ps pg cf ct (fun x => sz (ty x))) ((rq_ask ln fm tt le mk wn pc ph pe st ed fr go ps pg) j) j s c)) (nI kn, nI tn, th, rn_T ln, rn_A op, rn_A fm, rn_A tt, rn_A le, rn_A ln, rn_A li, rn_A rk, rn_A we, rn_A ca, rn_A mk, rn_A fa, rn_A tp, rn_A ac, rn_A sz, rn_A dw, rn_A st, rn_A ty, rn_A ed, rn_A la, rn_A fr, rn_A sp, rn_A go, rn_A nz, rn_A tk, rn_C ch, rn_A en, rn_A nw, rn_A gr, rn_A cr, rn_A ne, rn_A nl, rn_A oe, rn_A ol, rn_A fl, rn_A pc, rn_A ph, rn_A pa, rn_A se, rn_A ls, rn_A mo, rn_A tl, gp, fs)) : ∃ m, wY_can_61 post (nI c) (nI j) (nI n) (nI l) (nI kn) (nI tn) th (rn_T ln) (rn_A op) (rn_A fm) (rn_A tt) (rn_A le) (rn_A ln) (rn_A li) (rn_A rk) (rn_A we) (rn_A ca) (rn_A mk) (rn_A fa) (rn_A tp) (rn_A ac) (rn_A sz) (rn_A dw) (rn_A st) (rn_A ty) (rn_A ed) (rn_A la) (rn_A fr) (rn_A sp) (rn_A go) (rn_A nz) (rn_A tk) (rn_C ch) (rn_A en) (rn_A nw) (rn_A gr) (rn_A cr) (rn_A ne) (rn_A nl) (rn_A oe) (rn_A ol) (rn_A fl) (rn_A pc) (rn_A ph) (rn_A pa) (rn_A se) (rn_A ls) (rn_A mo) (rn_A tl) gp fs m 0 0 := by
  have P1 := ((rI_p I.1 hc).2.2.2.1 h2).1
  have A' := rI_c I.1 c
  refine loop_0 (fun m i (b : Nat) => wY_can_61 post (nI c) (nI j) (nI n) (nI l) (nI kn) (nI tn) th (rn_T ln) (rn_A op) (rn_A fm) (rn_A tt) (rn_A le) (rn_A ln) (rn_A li) (rn_A rk) (rn_A we) (rn_A ca) (rn_A mk) (rn_A fa) (rn_A tp) (rn_A ac) (rn_A sz) (rn_A dw) (rn_A st) (rn_A ty) (rn_A ed) (rn_A la) (rn_A fr) (rn_A sp) (rn_A go) (rn_A nz) (rn_A tk) (rn_C ch) (rn_A en) (rn_A nw) (rn_A gr) (rn_A cr) (rn_A ne) (rn_A nl) (rn_A oe) (rn_A ol) (rn_A fl) (rn_A pc) (rn_A ph) (rn_A pa) (rn_A se) (rn_A ls) (rn_A mo) (rn_A tl) gp fs m (nI b) (nI i)) (fun i b => b ≤ 1 ∧ (∀ d, d < i → (rq_hd fm tt ed fr pg cf (fun x => sz (ty x))) j d → (rq_hf tt ed ps pg cf) j d = ps c ∧ (rq_ht tt ed pg ct) j d = s) ∧ (b = 1 ↔ ∃ d, d < i ∧ (rq_hd fm tt ed fr pg cf (fun x => sz (ty x))) j d)) 32 0 ⟨by omega, fun d hd => absurd hd (Nat.not_lt_zero d), fun z => by omega, fun ⟨d, hd, _⟩ => absurd hd (Nat.not_lt_zero d)⟩ ?_ ?_
  · rintro m b ⟨b1, b2, b3⟩
    refine br_t (by decide) ?_
    rcases Nat.eq_zero_or_pos b with z | z
    · subst z
      exact ⟨1, br_f (nI_ge (a := 0) (b := 32) (by omega) (by decide)) (br_t rfl (rb_q1 (H kn fa hW) ⟨b2, fun v => by have := b3.mpr v; omega⟩))⟩
    · have bb : b = 1 := by omega
      subst bb
      have ex := b3.mp rfl
      exact ⟨33, ry_c235 post (P := (rq_mh fm tt rk le ed fr ps pg cf ct (fun x => sz (ty x))) ((rq_ask ln fm tt le mk wn pc ph pe st ed fr go ps pg) j) j s c) I.1 hc h2 hj ⟨fun w => w.2 ex, fun w => ⟨b2, fun _ => w⟩⟩ H 33 0 kn fa (by omega) (by omega) hW (fun b hb => absurd hb (Nat.not_lt_zero b))⟩
  · rintro m i b hi ⟨b1, b2, b3⟩ ih
    have A := rI_c I.1 i
    have G := rI_gd I.1 i hi
    obtain ⟨_, c2, c3, c4, c5⟩ := I.1.2.1.2 i hi
    have bad : ¬ ((rq_hf tt ed ps pg cf) j i = ps c ∧ (rq_ht tt ed pg ct) j i = s) → (rq_hd fm tt ed fr pg cf (fun x => sz (ty x))) j i → post 0 (nI kn, nI tn, th, rn_T ln, rn_A op, rn_A fm, rn_A tt, rn_A le, rn_A ln, rn_A li, rn_A rk, rn_A we, rn_A ca, rn_A mk, rn_A fa, rn_A tp, rn_A ac, rn_A sz, rn_A dw, rn_A st, rn_A ty, rn_A ed, rn_A la, rn_A fr, rn_A sp, rn_A go, rn_A nz, rn_A tk, rn_C ch, rn_A en, rn_A nw, rn_A gr, rn_A cr, rn_A ne, rn_A nl, rn_A oe, rn_A ol, rn_A fl, rn_A pc, rn_A ph, rn_A pa, rn_A se, rn_A ls, rn_A mo, rn_A tl, gp, fs) := fun w v => rb_q0 (H kn fa hW) (fun y => w (y.1 i hi v))
    have good : (rq_hf tt ed ps pg cf) j i = ps c ∧ (rq_ht tt ed pg ct) j i = s → (rq_hd fm tt ed fr pg cf (fun x => sz (ty x))) j i → wY_can_61 post (nI c) (nI j) (nI n) (nI l) (nI kn) (nI tn) th (rn_T ln) (rn_A op) (rn_A fm) (rn_A tt) (rn_A le) (rn_A ln) (rn_A li) (rn_A rk) (rn_A we) (rn_A ca) (rn_A mk) (rn_A fa) (rn_A tp) (rn_A ac) (rn_A sz) (rn_A dw) (rn_A st) (rn_A ty) (rn_A ed) (rn_A la) (rn_A fr) (rn_A sp) (rn_A go) (rn_A nz) (rn_A tk) (rn_C ch) (rn_A en) (rn_A nw) (rn_A gr) (rn_A cr) (rn_A ne) (rn_A nl) (rn_A oe) (rn_A ol) (rn_A fl) (rn_A pc) (rn_A ph) (rn_A pa) (rn_A se) (rn_A ls) (rn_A mo) (rn_A tl) gp fs m (nI 1) (nI (i + 1)) := fun w v => ih 1 ⟨by omega, lt_s b2 (fun _ => w), fun _ => ⟨i, by omega, v⟩, fun _ => rfl⟩
    refine pk_le 32 i (fun z => by omega) (fun _ => ry_hd _ rfl rfl I hi hj (fun k1 => ?_) (fun k1 k2 => ?_) (fun k1 => ?_))
    · -- bound to cross
      have hv : (rq_hd fm tt ed fr pg cf (fun x => sz (ty x))) j i := Or.inr k1
      have gg : 0 < pg i := by have := k1.1; omega
      obtain ⟨g1, g2, g3, g4, g5⟩ := rq_pgS I.1.2.1 hi gg
      have P2 := (c2 g1).1
      have LL := rI_e I.1 (ne i)
      have f1 : (rq_hf tt ed ps pg cf) j i = ps i := by unfold rq_hf; rw [if_pos k1]
      have f2 : (rq_ht tt ed pg ct) j i = pg i := by unfold rq_ht; rw [if_pos k1]
      rw [f1, f2] at bad good
      refine br_f (by decide) (br_t rfl ⟨pk_in i 32 hi, pk_in c 32 hc, ?_⟩)
      refine ek_f (rn_e (rn_rA (by omega)) (rn_rA (by omega)) (by omega) (by omega)) (fun m1 => ⟨pk_in i 32 hi, pk_in c 32 hc, ?_⟩) (fun m1 => br_t rfl (bad (by omega) hv))
      refine ek_f (rn_e (rn_rA (by omega)) (rn_rA (by omega)) (by omega) (by omega)) (fun m2 => ⟨pk_in i 32 hi, ?_⟩) (fun m2 => br_t rfl (bad (by omega) hv))
      refine ek_f (rn_e (rn_rA (by omega)) rfl (by omega) (by omega)) (fun m3 => ⟨pk_in i 32 hi, ?_⟩) (fun m3 => br_t rfl (bad (by omega) hv))
      exact ek_f (rn_e (rn_rA (by omega)) rfl (by omega) (by omega)) (fun m4 => br_f (by decide) (nm_r (nI_1 i) (good (by omega) hv))) (fun m4 => br_t rfl (bad (by omega) hv))
    · have hv : (rq_hd fm tt ed fr pg cf (fun x => sz (ty x))) j i := Or.inl k2
      have s2 : st i = 2 := by
        rcases Nat.decEq (st i) 2 with q | q
        · exact absurd (c3 q).2.2 k2.1
        · exact q
      have C5 := c5 s2
      have k3 := k2.1
      have f1 : (rq_hf tt ed ps pg cf) j i = cf i := by unfold rq_hf; rw [if_neg k1]
      have f2 : (rq_ht tt ed pg ct) j i = ct i := by unfold rq_ht; rw [if_neg k1]
      rw [f1, f2] at bad good
      refine br_f (by decide) (br_f (by decide) ⟨pk_in i 32 hi, pk_in c 32 hc, ?_⟩)
      refine ek_f (rn_e (rn_rA (by omega)) (rn_rA (by omega)) (by omega) (by omega)) (fun m1 => ⟨pk_in i 32 hi, pk_in c 32 hc, ?_⟩) (fun m1 => br_t rfl (bad (by omega) hv))
      refine ek_f (rn_e (rn_rA (by omega)) (rn_rA (by omega)) (by omega) (by omega)) (fun m2 => ⟨pk_in i 32 hi, ?_⟩) (fun m2 => br_t rfl (bad (by omega) hv))
      refine ek_f (rn_e (rn_rA (by omega)) rfl (by omega) (by omega)) (fun m3 => ⟨pk_in i 32 hi, ?_⟩) (fun m3 => br_t rfl (bad (by omega) hv))
      exact ek_f (rn_e (rn_rA (by omega)) rfl (by omega) (by omega)) (fun m4 => br_f (by decide) (nm_r (nI_1 i) (good (by omega) hv))) (fun m4 => br_t rfl (bad (by omega) hv))
    · refine br_t rfl (nm_r (nI_1 i) (ih b ⟨b1, lt_s b2 (fun v => absurd v k1), ?_⟩))
      rw [b3]
      constructor
      · rintro ⟨d, d1, d2⟩; exact ⟨d, by omega, d2⟩
      · rintro ⟨d, d1, d2⟩
        rcases Nat.decEq d i with q | q
        · exact ⟨d, by omega, d2⟩
        · subst q; exact absurd d2 k1
theorem ry_can (post : Int32 → SY → Prop) {c j : Nat} {x y : Int32} (hx : x = nI c) (hy : y = nI j) (I : (rq_I ln fm tt le li rk we op mk wd wn pc ph pa pe pt se ls mo tp ac sz dw st ty ed fr sp go tk en ch ps pg cf ct la gr cr ne nl oe ol fl tl tn N)) (hW : (rq_WY ln fm tt le li we op mk fa kn)) (hc : c < 32) (hj : j < 8) (hA : (rq_ask ln fm tt le mk wn pc ph pe st ed fr go ps pg) j c) (H : ∀ kn fa gp fs th, (rq_WY ln fm tt le li we op mk fa kn) → post (rb_ ((rq_cs le ed fr sp go ps (fun x => sz (ty x))) ((rq_as ln) ((rq_nx wn ed go) c) (ps c)) c ∧ (rq_mh fm tt rk le ed fr ps pg cf ct (fun x => sz (ty x))) ((rq_ask ln fm tt le mk wn pc ph pe st ed fr go ps pg) j) j ((rq_as ln) ((rq_nx wn ed go) c) (ps c)) c)) (nI kn, nI tn, th, rn_T ln, rn_A op, rn_A fm, rn_A tt, rn_A le, rn_A ln, rn_A li, rn_A rk, rn_A we, rn_A ca, rn_A mk, rn_A fa, rn_A tp, rn_A ac, rn_A sz, rn_A dw, rn_A st, rn_A ty, rn_A ed, rn_A la, rn_A fr, rn_A sp, rn_A go, rn_A nz, rn_A tk, rn_C ch, rn_A en, rn_A nw, rn_A gr, rn_A cr, rn_A ne, rn_A nl, rn_A oe, rn_A ol, rn_A fl, rn_A pc, rn_A ph, rn_A pa, rn_A se, rn_A ls, rn_A mo, rn_A tl, gp, fs)) : wpY_can post (nI kn, nI tn, th, rn_T ln, rn_A op, rn_A fm, rn_A tt, rn_A le, rn_A ln, rn_A li, rn_A rk, rn_A we, rn_A ca, rn_A mk, rn_A fa, rn_A tp, rn_A ac, rn_A sz, rn_A dw, rn_A st, rn_A ty, rn_A ed, rn_A la, rn_A fr, rn_A sp, rn_A go, rn_A nz, rn_A tk, rn_C ch, rn_A en, rn_A nw, rn_A gr, rn_A cr, rn_A ne, rn_A nl, rn_A oe, rn_A ol, rn_A fl, rn_A pc, rn_A ph, rn_A pa, rn_A se, rn_A ls, rn_A mo, rn_A tl, gp, fs) x y := by
  subst hx hy
  have h2 := hA.1
  have n0 := hA.2.2.2.2.2.2.1
  have A := rI_c I.1 c
  obtain ⟨x1, x2⟩ := rI_nx I.1 c
  obtain ⟨s1, s2, s3⟩ := rI_as I.1 hc h2
  obtain ⟨t1, t2, t3, t4, t5, t6⟩ := s2 n0
  have C := rI_e I.1 ((rq_nx wn ed go) c - 1)
  unfold wpY_can
  refine ry_nxo _ rfl I.1 hW hc (fun kn fa hW' => ⟨rn_ic n0 x1 (by omega), ?_⟩)
  have s26 : ∀ l, l ≤ 1 → (rq_as ln) ((rq_nx wn ed go) c) (ps c) = 2 * ((rq_nx wn ed go) c - 1) + l + 1 → wY_can_26 post (nI c) (nI j) (rn_c ((rq_nx wn ed go) c)) (nI l) (nI kn) (nI tn) th (rn_T ln) (rn_A op) (rn_A fm) (rn_A tt) (rn_A le) (rn_A ln) (rn_A li) (rn_A rk) (rn_A we) (rn_A ca) (rn_A mk) (rn_A fa) (rn_A tp) (rn_A ac) (rn_A sz) (rn_A dw) (rn_A st) (rn_A ty) (rn_A ed) (rn_A la) (rn_A fr) (rn_A sp) (rn_A go) (rn_A nz) (rn_A tk) (rn_C ch) (rn_A en) (rn_A nw) (rn_A gr) (rn_A cr) (rn_A ne) (rn_A nl) (rn_A oe) (rn_A ol) (rn_A fl) (rn_A pc) (rn_A ph) (rn_A pa) (rn_A se) (rn_A ls) (rn_A mo) (rn_A tl) gp fs := by
    intro l hl hl2
    unfold wY_can_26
    refine ry_fd _ (f := (rq_nx wn ed go) c) (l := l) rfl (by rw [rn_cs n0, rn_ys n0]) rfl I.1 hc h2 x1 (fun _ => hl) (fun _ => t4) (fun gp fs t ht hTh => ⟨pk_in c 32 hc, ?_⟩)
    have es : (if (rq_nx wn ed go) c = 0 then 0 else 2 * ((rq_nx wn ed go) c - 1) + l + 1) = (rq_as ln) ((rq_nx wn ed go) c) (ps c) := by rw [if_neg (by omega)]; exact hl2.symm
    rw [es] at hTh
    have hq : 0 < (rq_as ln) ((rq_nx wn ed go) c) (ps c) → rd_q ((rq_as ln) ((rq_nx wn ed go) c) (ps c)) ≠ ed c := fun _ => by rw [t2]; exact t4
    refine ry_als _ (rn_rA (by omega)) ht (by omega) ((hTh rq_Sh).mpr ⟨rq_LdS I.1 hc h2 s1 hq, rq_EnS I.1⟩) ?_
    rw [rb_e ((hTh (rq_R (sp c))).trans (rq_csT I hc h2 s1 t1 n0 t2 t4))]
    refine rb_b (fun k => rb_q0 (H kn fa gp fs _ hW') (fun w => k w.1)) (fun k => ?_)
    rw [rn_cs n0]
    refine ry_c61 post (s := (rq_as ln) ((rq_nx wn ed go) c) (ps c)) I hW' hc h2 hj (by omega) hl hl2 (fun kn fa hW'' => ?_)
    have := H kn fa gp fs (nI t) hW''
    rw [rb_e (Q := (rq_mh fm tt rk le ed fr ps pg cf ct (fun x => sz (ty x))) ((rq_ask ln fm tt le mk wn pc ph pe st ed fr go ps pg) j) j ((rq_as ln) ((rq_nx wn ed go) c) (ps c)) c) ⟨fun w => w.2, fun w => ⟨k, w⟩⟩] at this
    exact this
  refine ek_f (rn_e (rn_Ac n0 (by omega)) (b := 1) rfl (by omega) (by omega)) (fun k8 => s26 0 (by omega) (by rw [if_pos k8] at t5; exact t5)) (fun k8 => ⟨pk_in c 32 hc, ?_⟩)
  rw [rn_rA (by omega)]
  exact s26 (la c) (by omega) (by rw [if_neg k8] at t5; exact t5)
end
