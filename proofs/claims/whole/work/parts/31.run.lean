/-! run -/
section
variable {ln fm tt le li rk we op ca mk wd wn fa pc ph pa pe pt se ls mo tp ac sz dw st ty ed fr sp go nz tk en ch nw ps pg cf ct la gr cr ne nl oe ol fl tl : Nat → Nat} {tn kn N : Nat} {th : Int32} {gp fs : Nat → Int32}
theorem rq_Cup {tn' N' : Nat} (h : (rq_C ln st ty ed fr sp go tk en ch ps pg cf ct la gr cr ne nl oe ol fl tn N)) (h1 : tn ≤ tn') (h2 : N ≤ N') : (rq_C ln st ty ed fr sp go tk en ch ps pg cf ct la gr cr ne nl oe ol fl tn' N') := by
  refine ⟨fun c => ?_, h.2⟩
  have := h.1 c
  omega
theorem rq_Pup {N' : Nat} (h : (rq_P pc ph pa pe pt se ls mo N)) (h2 : N ≤ N') : (rq_P pc ph pa pe pt se ls mo N') := by
  intro j hj
  obtain ⟨b1, b2, b3, b4, b5⟩ := h j hj
  exact ⟨b1, b2, b3, by omega, b5⟩
theorem rl_N1 (I : (rq_I ln fm tt le li rk we op mk wd wn pc ph pa pe pt se ls mo tp ac sz dw st ty ed fr sp go tk en ch ps pg cf ct la gr cr ne nl oe ol fl tl tn N)) (hN : N + 1 ≤ 20000) : (rq_I ln fm tt le li rk we op mk wd wn pc ph pa pe pt se ls mo tp ac sz dw st ty ed fr sp go tk en ch ps pg cf ct la gr cr ne nl oe ol fl (ru_p tl 0 (tl 0 + 1)) tn (N + 1)) := by
  obtain ⟨⟨a1, a2, a3, a4, a5, a6, a7, a8⟩, S⟩ := I
  exact ⟨⟨a1, rq_Cup a2 (Nat.le_refl _) (by omega), rq_Pup a3 (by omega), a4, a5, by rw [ru_s, a6], hN, a8⟩, S⟩
theorem rl_run {n : Nat} (hn : n ≤ 20) : ∀ d i, i + d = n → ∀ (ph pa ps la ch tl pg gr ne nl nz nw ca st ed fr sp cf ct cr oe ol fl en : Nat → Nat) (N : Nat), (rq_I ln fm tt le li rk we op mk wd wn pc ph pa pe pt se ls mo tp ac sz dw st ty ed fr sp go tk en ch ps pg cf ct la gr cr ne nl oe ol fl tl tn N) → N + d ≤ 20000 → ∃ ph' pa' ps' la' ch' tl' pg' gr' ne' nl' nz' nw' ca' st' ed' fr' sp' cf' ct' cr' oe' ol' fl' en' : Nat → Nat, (rq_I ln fm tt le li rk we op mk wd wn pc ph' pa' pe pt se ls mo tp ac sz dw st' ty ed' fr' sp' go tk en' ch' ps' pg' cf' ct' la' gr' cr' ne' nl' oe' ol' fl' tl' tn (N + d)) ∧
    (∀ post, post (nI n) (nI tn, rn_A ln, rn_A fm, rn_A tt, rn_A le, rn_A li, rn_A rk, rn_A we, rn_A op, rn_A ca', rn_A mk, rn_B wd, rn_B wn, rn_A pc, rn_A ph', rn_A pa', rn_A pe, rn_A pt, rn_A tp, rn_A ac, rn_A sz, rn_A dw, rn_A st', rn_A ty, rn_A ed', rn_B ps', rn_A fr', rn_A sp', rn_A go, rn_A nz', rn_B pg', rn_B cf', rn_B ct', rn_A tk, rn_A en', rn_B ch', rn_A nw', rn_A tl') → wX_run_14 post (nI n) (d + 1) (nI i) (nI tn) (rn_A ln) (rn_A fm) (rn_A tt) (rn_A le) (rn_A li) (rn_A rk) (rn_A we) (rn_A op) (rn_A ca) (rn_A mk) (rn_B wd) (rn_B wn) (rn_A pc) (rn_A ph) (rn_A pa) (rn_A pe) (rn_A pt) (rn_A tp) (rn_A ac) (rn_A sz) (rn_A dw) (rn_A st) (rn_A ty) (rn_A ed) (rn_B ps) (rn_A fr) (rn_A sp) (rn_A go) (rn_A nz) (rn_B pg) (rn_B cf) (rn_B ct) (rn_A tk) (rn_A en) (rn_B ch) (rn_A nw) (rn_A tl)) ∧
    (∀ post kn fa gp fs th, (rq_WY ln fm tt le li we op mk fa kn) → (∀ kn fa gp fs th, (rq_WY ln fm tt le li we op mk fa kn) → post (nI n) (nI kn, nI tn, th, rn_T ln, rn_A op, rn_A fm, rn_A tt, rn_A le, rn_A ln, rn_A li, rn_A rk, rn_A we, rn_A ca', rn_A mk, rn_A fa, rn_A tp, rn_A ac, rn_A sz, rn_A dw, rn_A st', rn_A ty, rn_A ed', rn_A la', rn_A fr', rn_A sp', rn_A go, rn_A nz', rn_A tk, rn_C ch', rn_A en', rn_A nw', rn_A gr', rn_A cr', rn_A ne', rn_A nl', rn_A oe', rn_A ol', rn_A fl', rn_A pc, rn_A ph', rn_A pa', rn_A se, rn_A ls, rn_A mo, rn_A tl', gp, fs)) → wY_run_14 post (nI n) (d + 1) (nI i) (nI kn) (nI tn) th (rn_T ln) (rn_A op) (rn_A fm) (rn_A tt) (rn_A le) (rn_A ln) (rn_A li) (rn_A rk) (rn_A we) (rn_A ca) (rn_A mk) (rn_A fa) (rn_A tp) (rn_A ac) (rn_A sz) (rn_A dw) (rn_A st) (rn_A ty) (rn_A ed) (rn_A la) (rn_A fr) (rn_A sp) (rn_A go) (rn_A nz) (rn_A tk) (rn_C ch) (rn_A en) (rn_A nw) (rn_A gr) (rn_A cr) (rn_A ne) (rn_A nl) (rn_A oe) (rn_A ol) (rn_A fl) (rn_A pc) (rn_A ph) (rn_A pa) (rn_A se) (rn_A ls) (rn_A mo) (rn_A tl) gp fs) := by
  intro d
  induction d with
  | zero =>
    intro i hi ph pa ps la ch tl pg gr ne nl nz nw ca st ed fr sp cf ct cr oe ol fl en N I hN
    have e : i = n := by omega
    subst e
    exact ⟨ph, pa, ps, la, ch, tl, pg, gr, ne, nl, nz, nw, ca, st, ed, fr, sp, cf, ct, cr, oe, ol, fl, en, I, fun post h => br_t (nI_le (Nat.le_refl _) (by omega)) h, fun post kn fa gp fs th hW h => br_t (nI_le (Nat.le_refl _) (by omega)) (h kn fa gp fs th hW)⟩
  | succ d ih =>
    intro i hi ph pa ps la ch tl pg gr ne nl nz nw ca st ed fr sp cf ct cr oe ol fl en N I hN
    have I0 := rl_N1 I (by omega)
    obtain ⟨ph1, pa1, I1, x1, y1⟩ := rl_lts 8 0 rfl ph pa I0 (fun j _ hj => by have := (I.1.2.2.1 j hj).2.2.2.1; omega)
    obtain ⟨ps2, la2, ch2, tl2, I2, x2, y2⟩ := rl_all 16 0 rfl ps la ch (ru_p tl 0 (tl 0 + 1)) I1
    obtain ⟨pg3, gr3, ne3, nl3, tl3, I3, x3, y3⟩ := rl_cra 8 0 rfl pg gr ne nl tl2 I2
    obtain ⟨nz4, nw4, ca4, st4, ed4, fr4, sp4, ps4, pg4, cf4, ct4, la4, gr4, cr4, oe4, ol4, fl4, tl4, I4, x4, y4⟩ := rl_mv (nz := nz) (nw := nw) (ca := ca) I3
    obtain ⟨ca5, st5, fr5, sp5, en5, ps5, la5, cr5, tl5, I5, x5, y5⟩ := rl_ena 16 0 rfl ca4 st4 fr4 sp4 en ps4 la4 cr4 tl4 I4
    obtain ⟨ph6, pa6, ps6, la6, ch6, tl6, pg6, gr6, ne6, nl6, nz6, nw6, ca6, st6, ed6, fr6, sp6, cf6, ct6, cr6, oe6, ol6, fl6, en6, I6, x6, y6⟩ := ih (i + 1) (by omega) ph1 pa1 ps5 la5 ch2 tl5 pg4 gr4 ne3 nl3 nz4 nw4 ca5 st5 ed4 fr5 sp5 cf4 ct4 cr5 oe4 ol4 fl4 en5 (N + 1) I5 (by omega)
    rw [show N + 1 + d = N + (d + 1) by omega] at I6
    have hi2 : i < n := by omega
    refine ⟨ph6, pa6, ps6, la6, ch6, tl6, pg6, gr6, ne6, nl6, nz6, nw6, ca6, st6, ed6, fr6, sp6, cf6, ct6, cr6, oe6, ol6, fl6, en6, I6, fun post h => br_f (nI_ge hi2 (by omega)) (nm_r (rn_u3 0) ?_), fun post kn fa gp fs th hW h => br_f (nI_ge hi2 (by omega)) (nm_r (rn_u3 0) ⟨9, y1 _ kn fa gp fs th ⟨17, y2 _ kn fa gp fs th hW (fun kn fa hW2 => ⟨9, y3 _ kn fa gp fs th hW2 (fun kn fa gp fs th hW3 => y4 _ kn fa gp fs th (fun gp fs th => ⟨17, y5 _ kn fa gp fs th hW3 (fun kn fa hW4 => nm_r (nI_1 i) (y6 post kn fa gp fs th hW4 h))⟩))⟩)⟩⟩)⟩
    exact ⟨9, x1 _ ⟨17, x2 _ ⟨9, x3 _ (x4 _ ⟨17, x5 _ (nm_r (nI_1 i) (x6 post h))⟩)⟩⟩⟩
end
