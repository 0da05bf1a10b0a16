/-! LANES, to the end -/
section
variable {ln fm tt le li rk we op ca mk wd wn fa pc ph pa pe pt se ls mo tp ac sz dw st ty ed fr sp go nz tk en ch nw ps pg cf ct la gr cr ne nl oe ol fl tl : Nat → Nat} {tn kn N : Nat} {th : Int32} {gp fs : Nat → Int32}
theorem rl_on {e : Nat} (he : e < 16) (hln : ln e = 2) : ∀ f, f ≤ 200 → ∀ (ps la ch tl : Nat → Nat) (n : Nat) (dn : Int32), (rq_I ln fm tt le li rk we op mk wd wn pc ph pa pe pt se ls mo tp ac sz dw st ty ed fr sp go tk en ch ps pg cf ct la gr cr ne nl oe ol fl tl tn N) → rd_LI N e f 0 (bt dn) st ed fr la ch → n + rd_bc (rl_un st ed e dn) 32 ≤ 32 →
    ∃ ps' la' ch' tl' : Nat → Nat, (rq_I ln fm tt le li rk we op mk wd wn pc ph pa pe pt se ls mo tp ac sz dw st ty ed fr sp go tk en ch' ps' pg cf ct la' gr cr ne nl oe ol fl tl' tn N) ∧
    (∀ post, post (nI tn, rn_A ln, rn_A fm, rn_A tt, rn_A le, rn_A li, rn_A rk, rn_A we, rn_A op, rn_A ca, rn_A mk, rn_B wd, rn_B wn, rn_A pc, rn_A ph, rn_A pa, rn_A pe, rn_A pt, rn_A tp, rn_A ac, rn_A sz, rn_A dw, rn_A st, rn_A ty, rn_A ed, rn_B ps', rn_A fr, rn_A sp, rn_A go, rn_A nz, rn_B pg, rn_B cf, rn_B ct, rn_A tk, rn_A en, rn_B ch', rn_A nw, rn_A tl') → ∀ m, 33 - n ≤ m → wX_changeLanesOn_4 post (nI e) (nI tn) m dn (nI n) (rn_A ln) (rn_A fm) (rn_A tt) (rn_A le) (rn_A li) (rn_A rk) (rn_A we) (rn_A op) (rn_A ca) (rn_A mk) (rn_B wd) (rn_B wn) (rn_A pc) (rn_A ph) (rn_A pa) (rn_A pe) (rn_A pt) (rn_A tp) (rn_A ac) (rn_A sz) (rn_A dw) (rn_A st) (rn_A ty) (rn_A ed) (rn_B ps) (rn_A fr) (rn_A sp) (rn_A go) (rn_A nz) (rn_B pg) (rn_B cf) (rn_B ct) (rn_A tk) (rn_A en) (rn_B ch) (rn_A nw) (rn_A tl)) ∧
    (∀ post m kn fa gp fs th, f < m → (rq_WY ln fm tt le li we op mk fa kn) → (∀ kn fa, (rq_WY ln fm tt le li we op mk fa kn) → post (nI kn, nI tn, th, rn_T ln, rn_A op, rn_A fm, rn_A tt, rn_A le, rn_A ln, rn_A li, rn_A rk, rn_A we, rn_A ca, rn_A mk, rn_A fa, rn_A tp, rn_A ac, rn_A sz, rn_A dw, rn_A st, rn_A ty, rn_A ed, rn_A la', rn_A fr, rn_A sp, rn_A go, rn_A nz, rn_A tk, rn_C ch', rn_A en, rn_A nw, rn_A gr, rn_A cr, rn_A ne, rn_A nl, rn_A oe, rn_A ol, rn_A fl, rn_A pc, rn_A ph, rn_A pa, rn_A se, rn_A ls, rn_A mo, rn_A tl', gp, fs)) → wY_changeLanes_7 post (nI e) m (nI f) (nI kn) (nI tn) th (rn_T ln) (rn_A op) (rn_A fm) (rn_A tt) (rn_A le) (rn_A ln) (rn_A li) (rn_A rk) (rn_A we) (rn_A ca) (rn_A mk) (rn_A fa) (rn_A tp) (rn_A ac) (rn_A sz) (rn_A dw) (rn_A st) (rn_A ty) (rn_A ed) (rn_A la) (rn_A fr) (rn_A sp) (rn_A go) (rn_A nz) (rn_A tk) (rn_C ch) (rn_A en) (rn_A nw) (rn_A gr) (rn_A cr) (rn_A ne) (rn_A nl) (rn_A oe) (rn_A ol) (rn_A fl) (rn_A pc) (rn_A ph) (rn_A pa) (rn_A se) (rn_A ls) (rn_A mo) (rn_A tl) gp fs) := by
  intro f
  induction f with
  | zero =>
    intro _ ps la ch tl n dn I hL hn
    refine ⟨ps, la, ch, tl, I, fun post h m hm => ?_, fun post m kn fa gp fs th hm hW h => ?_⟩
    · obtain ⟨m', rfl⟩ : ∃ m', m = m' + 1 := ⟨m - 1, by omega⟩
      have hf := rd_LIz (ps := ps) hL (fun d d1 d2 d3 => ((I.2.2.2.2.2.2 d d1).1 (by have := ((rI_p I.1 d1).2.2.2.1 d2).1; omega)).1)
      refine br_c (fun _ => h) (fun _ => rx_fo _ rfl he (rI_st I.1) (rI_ed I.1) (rI_fr I.1) (rI_ps I.1) (fun d d1 d2 => by have := ((rI_p I.1 d1).2.2.2.1 d2).1; omega) ?_)
      rw [hf]
      exact br_t rfl h
    · obtain ⟨m', rfl⟩ : ∃ m', m = m' + 1 := ⟨m - 1, by omega⟩
      exact br_t (by decide) (h kn fa hW)
  | succ f ih =>
    intro hf ps la ch tl n dn I hL hn
    obtain ⟨ps1, la1, ch1, tl1, dn1, n1, I1, hn1, a1, b1, x1, y1⟩ := rl_visit I he hln (by omega) hf hL hn
    have hL1 := rd_LI0 hL a1 b1
    obtain ⟨ps2, la2, ch2, tl2, dn2, n2, I2, hn2, a2, b2, x2, y2⟩ := rl_visit I1 he hln (by omega) hf hL1 hn1
    have hL2 := rd_LI1 (la' := la2) (ch' := ch2) hL1 (fun d _ _ _ => (rI_c I1.1 d).2.2.2.2.2.2.2.2.2) a2
    obtain ⟨ps3, la3, ch3, tl3, I3, x3, y3⟩ := ih (by omega) ps2 la2 ch2 tl2 n2 dn2 I2 hL2 hn2
    refine ⟨ps3, la3, ch3, tl3, I3, fun post h => x1 post (x2 post (x3 post h)), fun post m kn fa gp fs th hm hW h => ?_⟩
    obtain ⟨m', rfl⟩ : ∃ m', m = m' + 1 := ⟨m - 1, by omega⟩
    refine br_f (nI_nle (by omega) (by omega)) ⟨3, y1 post _ 2 kn fa gp fs th hW (fun kn fa hW' => y2 post _ 1 kn fa gp fs th hW' (fun kn fa hW'' => br_t (by decide) (nm_r (pk_m1 f) (y3 post m' kn fa gp fs th (by omega) hW'' h))))⟩
theorem rl_edge {e : Nat} (he : e < 16) (hln : ln e = 2) (I : (rq_I ln fm tt le li rk we op mk wd wn pc ph pa pe pt se ls mo tp ac sz dw st ty ed fr sp go tk en ch ps pg cf ct la gr cr ne nl oe ol fl tl tn N)) : ∃ ps' la' ch' tl' : Nat → Nat, (rq_I ln fm tt le li rk we op mk wd wn pc ph pa pe pt se ls mo tp ac sz dw st ty ed fr sp go tk en ch' ps' pg cf ct la' gr cr ne nl oe ol fl tl' tn N) ∧
    (∀ post, post (nI tn, rn_A ln, rn_A fm, rn_A tt, rn_A le, rn_A li, rn_A rk, rn_A we, rn_A op, rn_A ca, rn_A mk, rn_B wd, rn_B wn, rn_A pc, rn_A ph, rn_A pa, rn_A pe, rn_A pt, rn_A tp, rn_A ac, rn_A sz, rn_A dw, rn_A st, rn_A ty, rn_A ed, rn_B ps', rn_A fr, rn_A sp, rn_A go, rn_A nz, rn_B pg, rn_B cf, rn_B ct, rn_A tk, rn_A en, rn_B ch', rn_A nw, rn_A tl') → wpX_changeLanesOn post (nI tn, rn_A ln, rn_A fm, rn_A tt, rn_A le, rn_A li, rn_A rk, rn_A we, rn_A op, rn_A ca, rn_A mk, rn_B wd, rn_B wn, rn_A pc, rn_A ph, rn_A pa, rn_A pe, rn_A pt, rn_A tp, rn_A ac, rn_A sz, rn_A dw, rn_A st, rn_A ty, rn_A ed, rn_B ps, rn_A fr, rn_A sp, rn_A go, rn_A nz, rn_B pg, rn_B cf, rn_B ct, rn_A tk, rn_A en, rn_B ch, rn_A nw, rn_A tl) (nI e)) ∧
    (∀ post kn fa gp fs th, (rq_WY ln fm tt le li we op mk fa kn) → (∀ kn fa, (rq_WY ln fm tt le li we op mk fa kn) → post (nI kn, nI tn, th, rn_T ln, rn_A op, rn_A fm, rn_A tt, rn_A le, rn_A ln, rn_A li, rn_A rk, rn_A we, rn_A ca, rn_A mk, rn_A fa, rn_A tp, rn_A ac, rn_A sz, rn_A dw, rn_A st, rn_A ty, rn_A ed, rn_A la', rn_A fr, rn_A sp, rn_A go, rn_A nz, rn_A tk, rn_C ch', rn_A en, rn_A nw, rn_A gr, rn_A cr, rn_A ne, rn_A nl, rn_A oe, rn_A ol, rn_A fl, rn_A pc, rn_A ph, rn_A pa, rn_A se, rn_A ls, rn_A mo, rn_A tl', gp, fs)) → wpY_changeLanes post (nI kn, nI tn, th, rn_T ln, rn_A op, rn_A fm, rn_A tt, rn_A le, rn_A ln, rn_A li, rn_A rk, rn_A we, rn_A ca, rn_A mk, rn_A fa, rn_A tp, rn_A ac, rn_A sz, rn_A dw, rn_A st, rn_A ty, rn_A ed, rn_A la, rn_A fr, rn_A sp, rn_A go, rn_A nz, rn_A tk, rn_C ch, rn_A en, rn_A nw, rn_A gr, rn_A cr, rn_A ne, rn_A nl, rn_A oe, rn_A ol, rn_A fl, rn_A pc, rn_A ph, rn_A pa, rn_A se, rn_A ls, rn_A mo, rn_A tl, gp, fs) (nI e)) := by
  have A := rI_e I.1 e
  have L0 : rd_LI N e (le e) 0 (bt 0) st ed fr la ch := by
    intro c c1 c2 c3
    have p := ((rI_p I.1 c1).2.2.2.1 c2).1
    have q := (rq_psE I.1.2.1 c1 c2).1
    have b := ((I.2.2.2.2.2.2 c c1).1 (by omega)).2
    rw [q, c3] at b
    refine ⟨fun z => ?_, fun _ => ?_, fun z => ?_⟩
    · rw [b_0] at z; exact absurd z (by decide)
    · rcases Nat.lt_or_ge (fr c) (le e) with w | w
      · exact Or.inl w
      · exact Or.inr ⟨by omega, by omega⟩
    · rw [b_0] at z; exact absurd z (by decide)
  obtain ⟨ps', la', ch', tl', I', x, y⟩ := rl_on he hln (le e) (by omega) ps la ch tl 0 0 I L0 (by have := rd_bcL (rl_un st ed e 0) 32; omega)
  refine ⟨ps', la', ch', tl', I', fun post h => ⟨33, x post h 33 (by omega)⟩, fun post kn fa gp fs th hW h => ⟨pk_in e 16 he, nm_r (rn_rA (by omega)) ⟨le e + 1, y post _ kn fa gp fs th (by omega) hW h⟩⟩⟩
theorem rl_all : ∀ d e, e + d = 16 → ∀ ps la ch tl : Nat → Nat, (rq_I ln fm tt le li rk we op mk wd wn pc ph pa pe pt se ls mo tp ac sz dw st ty ed fr sp go tk en ch ps pg cf ct la gr cr ne nl oe ol fl tl tn N) → ∃ ps' la' ch' tl' : Nat → Nat, (rq_I ln fm tt le li rk we op mk wd wn pc ph pa pe pt se ls mo tp ac sz dw st ty ed fr sp go tk en ch' ps' pg cf ct la' gr cr ne nl oe ol fl tl' tn N) ∧
    (∀ post, post (nI tn, rn_A ln, rn_A fm, rn_A tt, rn_A le, rn_A li, rn_A rk, rn_A we, rn_A op, rn_A ca, rn_A mk, rn_B wd, rn_B wn, rn_A pc, rn_A ph, rn_A pa, rn_A pe, rn_A pt, rn_A tp, rn_A ac, rn_A sz, rn_A dw, rn_A st, rn_A ty, rn_A ed, rn_B ps', rn_A fr, rn_A sp, rn_A go, rn_A nz, rn_B pg, rn_B cf, rn_B ct, rn_A tk, rn_A en, rn_B ch', rn_A nw, rn_A tl') → wX_changeLanes_2 post (d + 1) (nI e) (nI tn) (rn_A ln) (rn_A fm) (rn_A tt) (rn_A le) (rn_A li) (rn_A rk) (rn_A we) (rn_A op) (rn_A ca) (rn_A mk) (rn_B wd) (rn_B wn) (rn_A pc) (rn_A ph) (rn_A pa) (rn_A pe) (rn_A pt) (rn_A tp) (rn_A ac) (rn_A sz) (rn_A dw) (rn_A st) (rn_A ty) (rn_A ed) (rn_B ps) (rn_A fr) (rn_A sp) (rn_A go) (rn_A nz) (rn_B pg) (rn_B cf) (rn_B ct) (rn_A tk) (rn_A en) (rn_B ch) (rn_A nw) (rn_A tl)) ∧
    (∀ post kn fa gp fs th, (rq_WY ln fm tt le li we op mk fa kn) → (∀ kn fa, (rq_WY ln fm tt le li we op mk fa kn) → ∃ n78, wY_stepOn_78 post n78 0 (nI kn) (nI tn) th (rn_T ln) (rn_A op) (rn_A fm) (rn_A tt) (rn_A le) (rn_A ln) (rn_A li) (rn_A rk) (rn_A we) (rn_A ca) (rn_A mk) (rn_A fa) (rn_A tp) (rn_A ac) (rn_A sz) (rn_A dw) (rn_A st) (rn_A ty) (rn_A ed) (rn_A la') (rn_A fr) (rn_A sp) (rn_A go) (rn_A nz) (rn_A tk) (rn_C ch') (rn_A en) (rn_A nw) (rn_A gr) (rn_A cr) (rn_A ne) (rn_A nl) (rn_A oe) (rn_A ol) (rn_A fl) (rn_A pc) (rn_A ph) (rn_A pa) (rn_A se) (rn_A ls) (rn_A mo) (rn_A tl') gp fs) → wY_stepOn_40 post (d + 1) (nI e) (nI kn) (nI tn) th (rn_T ln) (rn_A op) (rn_A fm) (rn_A tt) (rn_A le) (rn_A ln) (rn_A li) (rn_A rk) (rn_A we) (rn_A ca) (rn_A mk) (rn_A fa) (rn_A tp) (rn_A ac) (rn_A sz) (rn_A dw) (rn_A st) (rn_A ty) (rn_A ed) (rn_A la) (rn_A fr) (rn_A sp) (rn_A go) (rn_A nz) (rn_A tk) (rn_C ch) (rn_A en) (rn_A nw) (rn_A gr) (rn_A cr) (rn_A ne) (rn_A nl) (rn_A oe) (rn_A ol) (rn_A fl) (rn_A pc) (rn_A ph) (rn_A pa) (rn_A se) (rn_A ls) (rn_A mo) (rn_A tl) gp fs) := by
  intro d
  induction d with
  | zero =>
    intro e he ps la ch tl I
    have e16 : e = 16 := by omega
    subst e16
    exact ⟨ps, la, ch, tl, I, fun post h => br_t (by decide) h, fun post kn fa gp fs th hW h => br_t (by decide) (h kn fa hW)⟩
  | succ d ih =>
    intro e he ps la ch tl I
    have A := rI_e I.1 e
    have e6 : e < 16 := by omega
    rcases Nat.decEq (ln e) 2 with q | q
    · obtain ⟨ps', la', ch', tl', I', x, y⟩ := ih (e + 1) (by omega) ps la ch tl I
      refine ⟨ps', la', ch', tl', I', fun post h => br_f (nI_ge (b := 16) e6 (by decide)) ⟨pk_in e 16 e6, ?_⟩, fun post kn fa gp fs th hW h => br_f (nI_ge (b := 16) e6 (by decide)) ⟨pk_in e 16 e6, ?_⟩⟩
      · exact ek_f (rn_e (rn_rA (by omega)) (b := 2) rfl (by omega) (by omega)) (fun k => absurd k q) (fun _ => nm_r (nI_1 e) (x post h))
      · refine br_c (fun _ => nm_r (nI_1 e) (y post kn fa gp fs th hW h)) (fun _ => ⟨pk_in e 16 e6, ?_⟩)
        exact ek_f (rn_e (rn_rA (by omega)) (b := 2) rfl (by omega) (by omega)) (fun k => absurd k q) (fun _ => nm_r (nI_1 e) (y post kn fa gp fs th hW h))
    · obtain ⟨ps1, la1, ch1, tl1, I1, x1, y1⟩ := rl_edge e6 q I
      obtain ⟨ps', la', ch', tl', I', x, y⟩ := ih (e + 1) (by omega) ps1 la1 ch1 tl1 I1
      refine ⟨ps', la', ch', tl', I', fun post h => br_f (nI_ge (b := 16) e6 (by decide)) ⟨pk_in e 16 e6, ?_⟩, fun post kn fa gp fs th hW h => br_f (nI_ge (b := 16) e6 (by decide)) ⟨pk_in e 16 e6, ?_⟩⟩
      · exact ek_f (rn_e (rn_rA (by omega)) (b := 2) rfl (by omega) (by omega)) (fun _ => x1 _ (nm_r (nI_1 e) (x post h))) (fun k => absurd q k)
      · refine ek_f (rn_TT (by omega)) (fun k => by omega) (fun _ => ⟨pk_in e 16 e6, ?_⟩)
        exact ek_f (rn_e (rn_rA (by omega)) (b := 2) rfl (by omega) (by omega)) (fun _ => y1 _ kn fa gp fs th hW (fun kn fa hW' => nm_r (nI_1 e) (y post kn fa gp fs th hW' h))) (fun k => absurd q k)
end
