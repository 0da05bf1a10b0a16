/-! of, junction -/
section
variable {ln fm tt le li rk we op ca mk wd wn fa pc ph pa pe pt se ls mo tp ac sz dw st ty ed fr sp go nz tk en ch nw ps pg cf ct la gr cr ne nl oe ol fl tl : Nat → Nat} {tn kn N : Nat} {th : Int32} {gp fs : Nat → Int32}
theorem rI_of2 (I : (rq_L ln fm tt le li rk we op mk wd wn pc ph pa pe pt se ls mo tp ac sz dw st ty ed fr sp go tk en ch ps pg cf ct la gr cr ne nl oe ol fl tl tn N)) {c : Nat} (hc : c < 32) (h2 : st c = 2) : rn_B ps (nI c).toNatClampNeg - rn_B ps (nI c).toNatClampNeg / 2 * 2 = nI (la c) := by
  obtain ⟨q1, q2, q3, q4, q5, q6⟩ := rq_psE I.2.1 hc h2
  rw [rn_rB (by omega), rn_cs q2, show nI (ps c - 1) - nI (ps c - 1) / 2 * 2 = nI ((ps c - 1) % 2) from pk_rem (d := 2) (by omega) (by omega) (by omega), q5]
/-- X's answer for a car that is there, and Y's -/
theorem rl_of {c w : Nat} (I : (rq_L ln fm tt le li rk we op mk wd wn pc ph pa pe pt se ls mo tp ac sz dw st ty ed fr sp go tk en ch ps pg cf ct la gr cr ne nl oe ol fl tl tn N)) (hW : (rq_WY ln fm tt le li we op mk fa kn)) (hc : c < 32) (h0 : st c ≠ 0) (hw : w ≤ 7) (hw1 : 1 ≤ w) (h2 : st c = 2 ∨ w < 2 ∨ 5 < w) : ∃ r : Int32, (∀ PX : Int32 → Prop, PX r → wX_of_65 PX (nI c) (nI w) (nI tn) (rn_A ln) (rn_A fm) (rn_A tt) (rn_A le) (rn_A li) (rn_A rk) (rn_A we) (rn_A op) (rn_A ca) (rn_A mk) (rn_B wd) (rn_B wn) (rn_A pc) (rn_A ph) (rn_A pa) (rn_A pe) (rn_A pt) (rn_A tp) (rn_A ac) (rn_A sz) (rn_A dw) (rn_A st) (rn_A ty) (rn_A ed) (rn_B ps) (rn_A fr) (rn_A sp) (rn_A go) (rn_A nz) (rn_B pg) (rn_B cf) (rn_B ct) (rn_A tk) (rn_A en) (rn_B ch) (rn_A nw) (rn_A tl)) ∧ (∀ PYy : Int32 → SY → Prop, (∀ kn fa, (rq_WY ln fm tt le li we op mk fa kn) → PYy r (nI kn, nI tn, th, rn_T ln, rn_A op, rn_A fm, rn_A tt, rn_A le, rn_A ln, rn_A li, rn_A rk, rn_A we, rn_A ca, rn_A mk, rn_A fa, rn_A tp, rn_A ac, rn_A sz, rn_A dw, rn_A st, rn_A ty, rn_A ed, rn_A la, rn_A fr, rn_A sp, rn_A go, rn_A nz, rn_A tk, rn_C ch, rn_A en, rn_A nw, rn_A gr, rn_A cr, rn_A ne, rn_A nl, rn_A oe, rn_A ol, rn_A fl, rn_A pc, rn_A ph, rn_A pa, rn_A se, rn_A ls, rn_A mo, rn_A tl, gp, fs)) → wY_of_63 PYy (nI c) (nI w) (nI kn) (nI tn) th (rn_T ln) (rn_A op) (rn_A fm) (rn_A tt) (rn_A le) (rn_A ln) (rn_A li) (rn_A rk) (rn_A we) (rn_A ca) (rn_A mk) (rn_A fa) (rn_A tp) (rn_A ac) (rn_A sz) (rn_A dw) (rn_A st) (rn_A ty) (rn_A ed) (rn_A la) (rn_A fr) (rn_A sp) (rn_A go) (rn_A nz) (rn_A tk) (rn_C ch) (rn_A en) (rn_A nw) (rn_A gr) (rn_A cr) (rn_A ne) (rn_A nl) (rn_A oe) (rn_A ol) (rn_A fl) (rn_A pc) (rn_A ph) (rn_A pa) (rn_A se) (rn_A ls) (rn_A mo) (rn_A tl) gp fs) := by
  have ic : vp_in (nI c) 32 := pk_in c 32 hc
  have A := rI_c I c
  have P := rI_p I hc
  have G0 := rI_gd I c hc
  have n1 : ¬ nI w < 1 := nI_nlt (b := 1) hw1 (by omega)
  have n6 : w ≤ 6 → ¬ (6 : Int32) < nI w := fun h => nI_nlt (a := 6) h (by decide)
  rcases (by omega : w = 1 ∨ w = 2 ∨ w = 3 ∨ w = 4 ∨ w = 5 ∨ w = 6 ∨ w = 7) with z | z | z | z | z | z | z <;> subst z
  · refine ⟨nI (ed c), fun _ h => br_f n1 (br_f (n6 (by omega)) (br_t rfl ⟨ic, ?_⟩)), fun _ h => br_f n1 (br_f (n6 (by omega)) (br_t rfl ⟨ic, ?_⟩))⟩
    · rw [rn_rA (by omega)]; exact h
    · rw [rn_rA (by omega)]; exact h kn fa hW
  · have s2 : st c = 2 := by omega
    refine ⟨nI (la c), fun _ h => br_f n1 (br_f (n6 (by omega)) (br_f (by decide) (br_t rfl ⟨ic, by decide, ?_⟩))), fun _ h => br_f n1 (br_f (n6 (by omega)) (br_f (by decide) (br_t rfl ⟨ic, ?_⟩)))⟩
    · rw [rI_of2 I hc s2]; exact h
    · rw [rn_rA (by omega)]; exact h kn fa hW
  · refine ⟨nI (fr c), fun _ h => br_f n1 (br_f (n6 (by omega)) (br_f (by decide) (br_f (by decide) (br_t rfl ⟨ic, ?_⟩)))), fun _ h => br_f n1 (br_f (n6 (by omega)) (br_f (by decide) (br_f (by decide) (br_t rfl ⟨ic, ?_⟩))))⟩
    · rw [rn_rA (by omega)]; exact h
    · rw [rn_rA (by omega)]; exact h kn fa hW
  · refine ⟨nI (sp c), fun _ h => br_f n1 (br_f (n6 (by omega)) (br_f (by decide) (br_f (by decide) (br_f (by decide) (br_t rfl ⟨ic, ?_⟩))))), fun _ h => br_f n1 (br_f (n6 (by omega)) (br_f (by decide) (br_f (by decide) (br_f (by decide) (br_t rfl ⟨ic, ?_⟩)))))⟩
    · rw [rn_rA (by omega)]; exact h
    · rw [rn_rA (by omega)]; exact h kn fa hW
  · rcases Nat.eq_zero_or_pos (pg c) with g | g
    · refine ⟨-2, fun _ h => br_f n1 (br_f (n6 (by omega)) (br_f (by decide) (br_f (by decide) (br_f (by decide) (br_f (by decide) (br_t rfl ⟨ic, ?_⟩)))))), fun _ h => br_f n1 (br_f (n6 (by omega)) (br_f (by decide) (br_f (by decide) (br_f (by decide) (br_f (by decide) (br_t rfl ⟨ic, ?_⟩))))))⟩
      · exact ek_f (rn_2 (rn_rB (by omega)) (b := 0) rfl (by omega) (by omega)) (fun _ => h) (fun z => absurd g z)
      · exact ek_f (rn_e (rn_rA (by omega)) (b := 0) rfl (by omega) (by omega)) (fun _ => h kn fa hW) (fun z => by omega)
    · refine ⟨nI (ne c), fun _ h => br_f n1 (br_f (n6 (by omega)) (br_f (by decide) (br_f (by decide) (br_f (by decide) (br_f (by decide) (br_t rfl ⟨ic, ?_⟩)))))), fun _ h => br_f n1 (br_f (n6 (by omega)) (br_f (by decide) (br_f (by decide) (br_f (by decide) (br_f (by decide) (br_t rfl ⟨ic, ?_⟩))))))⟩
      · refine ek_f (rn_2 (rn_rB (by omega)) (b := 0) rfl (by omega) (by omega)) (fun z => by omega) (fun z => ⟨ic, by decide, ?_⟩)
        rw [rn_rB (by omega), rn_cs g, show nI (pg c - 1) / 2 = nI ((pg c - 1) / 2) from pk_div (d := 2) (by omega) (by omega) (by omega), show (pg c - 1) / 2 = ne c by omega]
        exact h
      · refine ek_f (rn_e (rn_rA (by omega)) (b := 0) rfl (by omega) (by omega)) (fun z => by omega) (fun z => ⟨ic, ?_⟩)
        rw [rn_rA (by omega)]; exact h kn fa hW
  · refine ⟨nI (go c), fun _ h => br_f n1 (br_f (n6 (by omega)) (br_f (by decide) (br_f (by decide) (br_f (by decide) (br_f (by decide) (br_f (by decide) (br_t rfl ⟨ic, ?_⟩))))))), fun _ h => br_f n1 (br_f (n6 (by omega)) (br_f (by decide) (br_f (by decide) (br_f (by decide) (br_f (by decide) (br_f (by decide) (br_t rfl ⟨ic, ?_⟩)))))))⟩
    · rw [rn_rA (by omega)]; exact h
    · rw [rn_rA (by omega)]; exact h kn fa hW
  · exact ⟨rn_c ((rq_nx wn ed go) c), fun _ h => br_f n1 (br_t (by decide) (rx_nx _ rfl hc (rI_ed I) (fun c => (rI_c I c).2.2.2.1) h)), fun _ h => br_f n1 (br_t (by decide) (ry_nxo _ rfl I hW hc h))⟩
/-! the holders -/
noncomputable def rq_jc (fm tt ty sz ed fr pg cf : Nat → Nat) (j : Nat) : Nat → Nat
  | 0 => 0
  | i + 1 => @ite Nat ((rq_hd fm tt ed fr pg cf (fun x => sz (ty x))) j i) (Classical.propDecidable _) (rq_jc fm tt ty sz ed fr pg cf j i + 1) (rq_jc fm tt ty sz ed fr pg cf j i)
noncomputable def rq_jf (fm tt ty sz ed fr ps pg cf : Nat → Nat) (j : Nat) : Nat → Nat
  | 0 => 0
  | i + 1 => @ite Nat ((rq_hd fm tt ed fr pg cf (fun x => sz (ty x))) j i) (Classical.propDecidable _) ((rq_hf tt ed ps pg cf) j i) (rq_jf fm tt ty sz ed fr ps pg cf j i)
theorem rq_jP {j i : Nat} (h : (rq_hd fm tt ed fr pg cf (fun x => sz (ty x))) j i) : rq_jc fm tt ty sz ed fr pg cf j (i + 1) = rq_jc fm tt ty sz ed fr pg cf j i + 1 ∧ rq_jf fm tt ty sz ed fr ps pg cf j (i + 1) = (rq_hf tt ed ps pg cf) j i := by
  simp only [rq_jc, rq_jf]; rw [if_pos h, if_pos h]; exact ⟨rfl, rfl⟩
theorem rq_jN {j i : Nat} (h : ¬ (rq_hd fm tt ed fr pg cf (fun x => sz (ty x))) j i) : rq_jc fm tt ty sz ed fr pg cf j (i + 1) = rq_jc fm tt ty sz ed fr pg cf j i ∧ rq_jf fm tt ty sz ed fr ps pg cf j (i + 1) = rq_jf fm tt ty sz ed fr ps pg cf j i := by
  simp only [rq_jc, rq_jf]; rw [if_neg h, if_neg h]; exact ⟨rfl, rfl⟩
def rq_je (f : Nat) : Nat := if f = 0 then 0 else (f - 1) / 2 + 1
def rq_jl (f : Nat) : Nat := if f = 0 then 0 else (f - 1) % 2 + 1
/-- what junction answers of its holders -/
noncomputable def rq_ja (n f : Nat) : Nat → Int32
  | 2 => nI n
  | 3 => rn_c (rq_je f)
  | _ => rn_c (rq_jl f)
theorem rx_jn (post : Int32 → Prop) {j w : Nat} (I : (rq_L ln fm tt le li rk we op mk wd wn pc ph pa pe pt se ls mo tp ac sz dw st ty ed fr sp go tk en ch ps pg cf ct la gr cr ne nl oe ol fl tl tn N)) (hj : j < 8) (hw : 2 ≤ w) (hw4 : w ≤ 4) (h : post (rq_ja (rq_jc fm tt ty sz ed fr pg cf j 32) (rq_jf fm tt ty sz ed fr ps pg cf j 32) w)) : ∃ n, wX_junction_67 post (nI j) (nI w) (nI tn) (rn_A ln) (rn_A fm) (rn_A tt) (rn_A le) (rn_A li) (rn_A rk) (rn_A we) (rn_A op) (rn_A ca) (rn_A mk) (rn_B wd) (rn_B wn) (rn_A pc) (rn_A ph) (rn_A pa) (rn_A pe) (rn_A pt) (rn_A tp) (rn_A ac) (rn_A sz) (rn_A dw) (rn_A st) (rn_A ty) (rn_A ed) (rn_B ps) (rn_A fr) (rn_A sp) (rn_A go) (rn_A nz) (rn_B pg) (rn_B cf) (rn_B ct) (rn_A tk) (rn_A en) (rn_B ch) (rn_A nw) (rn_A tl) n 0 (-2) 0 := by
  refine loop_0 (fun n i (s : Nat × Nat) => wX_junction_67 post (nI j) (nI w) (nI tn) (rn_A ln) (rn_A fm) (rn_A tt) (rn_A le) (rn_A li) (rn_A rk) (rn_A we) (rn_A op) (rn_A ca) (rn_A mk) (rn_B wd) (rn_B wn) (rn_A pc) (rn_A ph) (rn_A pa) (rn_A pe) (rn_A pt) (rn_A tp) (rn_A ac) (rn_A sz) (rn_A dw) (rn_A st) (rn_A ty) (rn_A ed) (rn_B ps) (rn_A fr) (rn_A sp) (rn_A go) (rn_A nz) (rn_B pg) (rn_B cf) (rn_B ct) (rn_A tk) (rn_A en) (rn_B ch) (rn_A nw) (rn_A tl) n (nI s.1) (rn_c s.2) (nI i)) (fun i s => s.1 = rq_jc fm tt ty sz ed fr pg cf j i ∧ s.2 = rq_jf fm tt ty sz ed fr ps pg cf j i ∧ s.2 ≤ 32) 32 (0, 0) ⟨rfl, rfl, by omega⟩ ?_ ?_
  · rintro n ⟨a, f⟩ ⟨e1, e2, e3⟩
    have e1' : a = _ := e1
    have e2' : f = _ := e2
    have e3' : f ≤ 32 := e3
    rw [← e1', ← e2'] at h
    refine br_t (by decide) ?_
    rcases (by omega : w = 2 ∨ w = 3 ∨ w = 4) with z | z | z <;> subst z
    · exact br_t rfl h
    · refine br_f (by decide) (ek_f (rn_c2 (n := f) (by omega)) (fun q => ?_) (fun q => br_t rfl ⟨by decide, ?_⟩))
      · have h' : post (rn_c (rq_je f)) := h
        unfold rq_je at h'
        rw [if_pos q] at h'; exact h'
      · have h' : post (rn_c (rq_je f)) := h
        unfold rq_je at h'
        rw [if_neg q] at h'
        show post (rn_c f / 2)
        rw [rn_cs (by omega), show nI (f - 1) / 2 = nI ((f - 1) / 2) from pk_div (d := 2) (by omega) (by omega) (by omega)]
        exact h'
    · refine br_f (by decide) (ek_f (rn_c2 (n := f) (by omega)) (fun q => ?_) (fun q => br_f (by decide) ⟨by decide, ?_⟩))
      · have h' : post (rn_c (rq_jl f)) := h
        unfold rq_jl at h'
        rw [if_pos q] at h'; exact h'
      · have h' : post (rn_c (rq_jl f)) := h
        unfold rq_jl at h'
        rw [if_neg q] at h'
        show post (rn_c f - rn_c f / 2 * 2)
        rw [rn_cs (by omega), show nI (f - 1) - nI (f - 1) / 2 * 2 = nI ((f - 1) % 2) from pk_rem (d := 2) (by omega) (by omega) (by omega)]
        exact h'
  · rintro n i ⟨a, f⟩ hi ⟨e1, e2, e3⟩ ih
    refine pk_le 32 i (fun z => by omega) (fun _ => rx_hd _ rfl rfl I hi hj (rb_b (fun k => nm_r (nI_1 i) (ih (a, f) ?_)) (fun k => nm_r (nI_1 a) (rx_hf _ rfl rfl I hi hj (nm_r (nI_1 i) (ih (a + 1, (rq_hf tt ed ps pg cf) j i) ?_))))))
    · obtain ⟨c1, c2⟩ := rq_jN (fm := fm) (tt := tt) (ty := ty) (sz := sz) (ed := ed) (fr := fr) (ps := ps) (pg := pg) (cf := cf) k
      rw [c1, c2]; exact ⟨e1, e2, e3⟩
    · obtain ⟨c1, c2⟩ := rq_jP (fm := fm) (tt := tt) (ty := ty) (sz := sz) (ed := ed) (fr := fr) (ps := ps) (pg := pg) (cf := cf) k
      rw [c1, c2]
      exact ⟨by show a + 1 = _; rw [show a = _ from e1], rfl, (rI_hB I hi k).1⟩
theorem ry_jn (post : Int32 → Prop) {j w : Nat} (I : (rq_I ln fm tt le li rk we op mk wd wn pc ph pa pe pt se ls mo tp ac sz dw st ty ed fr sp go tk en ch ps pg cf ct la gr cr ne nl oe ol fl tl tn N)) (hj : j < 8) (hw : 2 ≤ w) (hw4 : w ≤ 4) (h : post (rq_ja (rq_jc fm tt ty sz ed fr pg cf j 32) (rq_jf fm tt ty sz ed fr ps pg cf j 32) w)) : ∃ n, wY_junction_84 post (nI j) (nI w) (nI kn) (nI tn) th (rn_T ln) (rn_A op) (rn_A fm) (rn_A tt) (rn_A le) (rn_A ln) (rn_A li) (rn_A rk) (rn_A we) (rn_A ca) (rn_A mk) (rn_A fa) (rn_A tp) (rn_A ac) (rn_A sz) (rn_A dw) (rn_A st) (rn_A ty) (rn_A ed) (rn_A la) (rn_A fr) (rn_A sp) (rn_A go) (rn_A nz) (rn_A tk) (rn_C ch) (rn_A en) (rn_A nw) (rn_A gr) (rn_A cr) (rn_A ne) (rn_A nl) (rn_A oe) (rn_A ol) (rn_A fl) (rn_A pc) (rn_A ph) (rn_A pa) (rn_A se) (rn_A ls) (rn_A mo) (rn_A tl) gp fs n 0 (-2) (-2) 0 := by
  refine loop_0 (fun n i (s : Nat × Nat) => wY_junction_84 post (nI j) (nI w) (nI kn) (nI tn) th (rn_T ln) (rn_A op) (rn_A fm) (rn_A tt) (rn_A le) (rn_A ln) (rn_A li) (rn_A rk) (rn_A we) (rn_A ca) (rn_A mk) (rn_A fa) (rn_A tp) (rn_A ac) (rn_A sz) (rn_A dw) (rn_A st) (rn_A ty) (rn_A ed) (rn_A la) (rn_A fr) (rn_A sp) (rn_A go) (rn_A nz) (rn_A tk) (rn_C ch) (rn_A en) (rn_A nw) (rn_A gr) (rn_A cr) (rn_A ne) (rn_A nl) (rn_A oe) (rn_A ol) (rn_A fl) (rn_A pc) (rn_A ph) (rn_A pa) (rn_A se) (rn_A ls) (rn_A mo) (rn_A tl) gp fs n (nI s.1) (rn_c (rq_je s.2)) (rn_c (rq_jl s.2)) (nI i)) (fun i s => s.1 = rq_jc fm tt ty sz ed fr pg cf j i ∧ s.2 = rq_jf fm tt ty sz ed fr ps pg cf j i) 32 (0, 0) ⟨rfl, rfl⟩ ?_ ?_
  · rintro n ⟨a, f⟩ ⟨e1, e2⟩
    have e1' : a = _ := e1
    have e2' : f = _ := e2
    rw [← e1', ← e2'] at h
    refine br_t (by decide) ?_
    rcases (by omega : w = 2 ∨ w = 3 ∨ w = 4) with z | z | z <;> subst z
    · exact br_t rfl h
    · exact br_f (by decide) (br_t rfl h)
    · exact br_f (by decide) (br_f (by decide) h)
  · rintro n i ⟨a, f⟩ hi ⟨e1, e2⟩ ih
    have A := rI_c I.1 i
    have ii : vp_in (nI i) 32 := pk_in i 32 hi
    obtain ⟨_, c2, c3, c4, c5⟩ := I.1.2.1.2 i hi
    have nxt : (rq_hd fm tt ed fr pg cf (fun x => sz (ty x))) j i → ∀ x y, (rq_hf tt ed ps pg cf) j i = 2 * x + y + 1 → y ≤ 1 → wY_junction_84 post (nI j) (nI w) (nI kn) (nI tn) th (rn_T ln) (rn_A op) (rn_A fm) (rn_A tt) (rn_A le) (rn_A ln) (rn_A li) (rn_A rk) (rn_A we) (rn_A ca) (rn_A mk) (rn_A fa) (rn_A tp) (rn_A ac) (rn_A sz) (rn_A dw) (rn_A st) (rn_A ty) (rn_A ed) (rn_A la) (rn_A fr) (rn_A sp) (rn_A go) (rn_A nz) (rn_A tk) (rn_C ch) (rn_A en) (rn_A nw) (rn_A gr) (rn_A cr) (rn_A ne) (rn_A nl) (rn_A oe) (rn_A ol) (rn_A fl) (rn_A pc) (rn_A ph) (rn_A pa) (rn_A se) (rn_A ls) (rn_A mo) (rn_A tl) gp fs n (nI (a + 1)) (nI x) (nI y) (nI (i + 1)) := by
      intro k x y hxy hy
      obtain ⟨d1, d2⟩ := rq_jP (fm := fm) (tt := tt) (ty := ty) (sz := sz) (ed := ed) (fr := fr) (ps := ps) (pg := pg) (cf := cf) k
      have := ih (a + 1, (rq_hf tt ed ps pg cf) j i) ⟨by rw [d1]; show a + 1 = _; rw [show a = _ from e1], d2.symm⟩
      have g1 : rq_je ((rq_hf tt ed ps pg cf) j i) = x + 1 := by unfold rq_je; rw [if_neg (by omega)]; omega
      have g2 : rq_jl ((rq_hf tt ed ps pg cf) j i) = y + 1 := by unfold rq_jl; rw [if_neg (by omega)]; omega
      have t : wY_junction_84 post (nI j) (nI w) (nI kn) (nI tn) th (rn_T ln) (rn_A op) (rn_A fm) (rn_A tt) (rn_A le) (rn_A ln) (rn_A li) (rn_A rk) (rn_A we) (rn_A ca) (rn_A mk) (rn_A fa) (rn_A tp) (rn_A ac) (rn_A sz) (rn_A dw) (rn_A st) (rn_A ty) (rn_A ed) (rn_A la) (rn_A fr) (rn_A sp) (rn_A go) (rn_A nz) (rn_A tk) (rn_C ch) (rn_A en) (rn_A nw) (rn_A gr) (rn_A cr) (rn_A ne) (rn_A nl) (rn_A oe) (rn_A ol) (rn_A fl) (rn_A pc) (rn_A ph) (rn_A pa) (rn_A se) (rn_A ls) (rn_A mo) (rn_A tl) gp fs n (nI (a + 1)) (rn_c (rq_je ((rq_hf tt ed ps pg cf) j i))) (rn_c (rq_jl ((rq_hf tt ed ps pg cf) j i))) (nI (i + 1)) := this
      rw [g1, g2] at t
      exact t
    refine pk_le 32 i (fun z => by omega) (fun _ => ry_hd _ rfl rfl I hi hj (fun k1 => ?_) (fun k1 k2 => ?_) (fun k1 => ?_))
    · have hv : (rq_hd fm tt ed fr pg cf (fun x => sz (ty x))) j i := Or.inr k1
      have gg : 0 < pg i := by have := k1.1; omega
      obtain ⟨g1, _⟩ := rq_pgS I.1.2.1 hi gg
      have P2 := (c2 g1).1
      have f1 : (rq_hf tt ed ps pg cf) j i = ps i := by unfold rq_hf; rw [if_pos k1]
      refine br_f (by decide) (nm_r (nI_1 a) (br_t rfl ⟨ii, br_t rfl ⟨ii, nm_r (rn_rA (by omega)) (nm_r (nI_1 i) ?_)⟩⟩))
      rw [rn_rA (by omega)]
      exact nxt hv (ed i) (la i) (by rw [f1]; exact P2) (by omega)
    · have hv : (rq_hd fm tt ed fr pg cf (fun x => sz (ty x))) j i := Or.inl k2
      have s2 : st i = 2 := by
        rcases Nat.decEq (st i) 2 with q | q
        · exact absurd (c3 q).2.2 k2.1
        · exact q
      have C5 := c5 s2
      have k3 := k2.1
      have f1 : (rq_hf tt ed ps pg cf) j i = cf i := by unfold rq_hf; rw [if_neg k1]
      refine br_f (by decide) (nm_r (nI_1 a) (br_f (by decide) ⟨ii, br_f (by decide) ⟨ii, nm_r (rn_rA (by omega)) (nm_r (nI_1 i) ?_)⟩⟩))
      rw [rn_rA (by omega)]
      exact nxt hv (oe i) (ol i) (by rw [f1]; omega) (by omega)
    · obtain ⟨d1, d2⟩ := rq_jN (fm := fm) (tt := tt) (ty := ty) (sz := sz) (ed := ed) (fr := fr) (ps := ps) (pg := pg) (cf := cf) k1
      exact br_t rfl (nm_r (nI_1 i) (ih (a, f) ⟨by rw [d1]; exact e1, by rw [d2]; exact e2⟩))
end
