/-! MOVES: car after car -/
theorem rn_uk {f : Nat → Nat} {k x : Nat} : upd (rn_A f) k (nI x) = rn_A (ru_p f k x) := by
  funext j
  unfold upd rn_A ru_p
  by_cases z : j = k
  · rw [if_pos z, if_pos z]
  · rw [if_neg z, if_neg z]
theorem rn_vf : vp_nar .boolean 0 = 0 := rfl
section
variable {ln fm tt le li rk we op ca mk wd wn fa pc ph pa pe pt se ls mo tp ac sz dw st ty ed fr sp go nz tk en ch nw ps pg cf ct la gr cr ne nl oe ol fl tl : Nat → Nat} {tn kn N : Nat} {th : Int32} {gp fs : Nat → Int32}
theorem rx_to (post : SX → Prop) {c : Nat} {x : Int32} (hx : x = nI c) (hc : c < 32) (h : post (nI tn, rn_A ln, rn_A fm, rn_A tt, rn_A le, rn_A li, rn_A rk, rn_A we, rn_A op, rn_A ca, rn_A mk, rn_B wd, rn_B wn, rn_A pc, rn_A ph, rn_A pa, rn_A pe, rn_A pt, rn_A tp, rn_A ac, rn_A sz, rn_A dw, rn_A (ru_p st c 0), rn_A ty, rn_A ed, rn_B (ru_p ps c 0), rn_A fr, rn_A sp, rn_A go, rn_A nz, rn_B (ru_p pg c 0), rn_B (ru_p cf c 0), rn_B (ru_p ct c 0), rn_A tk, rn_A en, rn_B ch, rn_A nw, rn_A tl)) : wpX_takeOff post (nI tn, rn_A ln, rn_A fm, rn_A tt, rn_A le, rn_A li, rn_A rk, rn_A we, rn_A op, rn_A ca, rn_A mk, rn_B wd, rn_B wn, rn_A pc, rn_A ph, rn_A pa, rn_A pe, rn_A pt, rn_A tp, rn_A ac, rn_A sz, rn_A dw, rn_A st, rn_A ty, rn_A ed, rn_B ps, rn_A fr, rn_A sp, rn_A go, rn_A nz, rn_B pg, rn_B cf, rn_B ct, rn_A tk, rn_A en, rn_B ch, rn_A nw, rn_A tl) x := by
  subst hx
  exact ⟨pk_in c 32 hc, nm_r (rn_uA (x := 0) (by omega)) ⟨pk_in c 32 hc, nm_r (rn_uB (x := 0) (by omega)) ⟨pk_in c 32 hc, nm_r (rn_uB (x := 0) (by omega)) ⟨pk_in c 32 hc, nm_r (rn_uB (x := 0) (by omega)) ⟨pk_in c 32 hc, nm_r (rn_uB (x := 0) (by omega)) h⟩⟩⟩⟩⟩
theorem rl_mv1 {c : Nat} (I : (rq_L ln fm tt le li rk we op mk wd wn pc ph pa pe pt se ls mo tp ac sz dw st ty ed fr sp go tk en ch ps pg cf ct la gr cr ne nl oe ol fl tl tn N)) (hc : c < 32) (h2 : st c = 2) (hu : nw c ≤ 12) (hs : sp c ≤ nw c + 2) (hf : fr c ≤ le (ed c)) (k0 : pg c = 0 → go c ≠ ed c → fr c + nw c ≤ le (ed c)) (k1 : 0 < pg c → go c ≠ ed c) :
    ∃ ca' st' ed' fr' sp' ps' pg' cf' ct' la' gr' cr' oe' ol' fl' tl' : Nat → Nat, (rq_L ln fm tt le li rk we op mk wd wn pc ph pa pe pt se ls mo tp ac sz dw st' ty ed' fr' sp' go tk en ch ps' pg' cf' ct' la' gr' cr' ne nl oe' ol' fl' tl' tn N) ∧
    rd_M1 le ps pg fr go nw ps' pg' fr' sp' c ∧ (∀ d, d ≠ c → ps' d = ps d ∧ pg' d = pg d ∧ fr' d = fr d ∧ sp' d = sp d) ∧
    (∀ post, post (nI tn, rn_A ln, rn_A fm, rn_A tt, rn_A le, rn_A li, rn_A rk, rn_A we, rn_A op, rn_A ca', rn_A mk, rn_B wd, rn_B wn, rn_A pc, rn_A ph, rn_A pa, rn_A pe, rn_A pt, rn_A tp, rn_A ac, rn_A sz, rn_A dw, rn_A st', rn_A ty, rn_A ed', rn_B ps', rn_A fr', rn_A sp', rn_A go, rn_A nz, rn_B pg', rn_B cf', rn_B ct', rn_A tk, rn_A en, rn_B ch, rn_A nw, rn_A tl') → wpX_moveOn post (nI tn, rn_A ln, rn_A fm, rn_A tt, rn_A le, rn_A li, rn_A rk, rn_A we, rn_A op, rn_A ca, rn_A mk, rn_B wd, rn_B wn, rn_A pc, rn_A ph, rn_A pa, rn_A pe, rn_A pt, rn_A tp, rn_A ac, rn_A sz, rn_A dw, rn_A st, rn_A ty, rn_A ed, rn_B ps, rn_A fr, rn_A sp, rn_A go, rn_A nz, rn_B pg, rn_B cf, rn_B ct, rn_A tk, rn_A en, rn_B ch, rn_A nw, rn_A tl) (nI c)) ∧
    (∀ post kn fa gp fs th, post (nI kn, nI tn, th, rn_T ln, rn_A op, rn_A fm, rn_A tt, rn_A le, rn_A ln, rn_A li, rn_A rk, rn_A we, rn_A ca', rn_A mk, rn_A fa, rn_A tp, rn_A ac, rn_A sz, rn_A dw, rn_A st', rn_A ty, rn_A ed', rn_A la', rn_A fr', rn_A sp', rn_A go, rn_A nz, rn_A tk, rn_C ch, rn_A en, rn_A nw, rn_A gr', rn_A cr', rn_A ne, rn_A nl, rn_A oe', rn_A ol', rn_A fl', rn_A pc, rn_A ph, rn_A pa, rn_A se, rn_A ls, rn_A mo, rn_A tl', gp, fs) → wpY_move post (nI kn, nI tn, th, rn_T ln, rn_A op, rn_A fm, rn_A tt, rn_A le, rn_A ln, rn_A li, rn_A rk, rn_A we, rn_A ca, rn_A mk, rn_A fa, rn_A tp, rn_A ac, rn_A sz, rn_A dw, rn_A st, rn_A ty, rn_A ed, rn_A la, rn_A fr, rn_A sp, rn_A go, rn_A nz, rn_A tk, rn_C ch, rn_A en, rn_A nw, rn_A gr, rn_A cr, rn_A ne, rn_A nl, rn_A oe, rn_A ol, rn_A fl, rn_A pc, rn_A ph, rn_A pa, rn_A se, rn_A ls, rn_A mo, rn_A tl, gp, fs) (nI c)) := by
  have A := rI_c I c
  have B := rI_e I (ed c)
  have P := rI_p I hc
  have G := rI_gd I c hc
  obtain ⟨q1, q2, q3, q4, q5, q6⟩ := rq_psE I.2.1 hc h2
  have C0 := I.2.2.2.2.2
  have ic : vp_in (nI c) 32 := pk_in c 32 hc
  have ie : vp_in (nI (ed c)) 16 := vp_in_nI (by omega) (by omega)
  have fu : upd (rn_A fr) (nI c).toNatClampNeg (rn_A fr (nI c).toNatClampNeg + nI (nw c)) = rn_A (ru_p fr c (fr c + nw c)) := by
    rw [rn_rA (by omega), nI_add]; exact rn_uA (by omega)
  have lr : rn_A le (nI (ed c)).toNatClampNeg = nI (le (ed c)) := rn_rA (by omega)
  have fr1 : rn_A (ru_p fr c (fr c + nw c)) (nI c).toNatClampNeg = nI (fr c + nw c) := by rw [rn_rA (by omega), ru_s]
  -- up to the branch on the end of the edge
  have headX : ∀ post, wX_moveOn_36 post (nI c) (nI (ed c)) (nI (nw c)) (nI tn) (rn_A ln) (rn_A fm) (rn_A tt) (rn_A le) (rn_A li) (rn_A rk) (rn_A we) (rn_A op) (rn_A ca) (rn_A mk) (rn_B wd) (rn_B wn) (rn_A pc) (rn_A ph) (rn_A pa) (rn_A pe) (rn_A pt) (rn_A tp) (rn_A ac) (rn_A sz) (rn_A dw) (rn_A st) (rn_A ty) (rn_A ed) (rn_B ps) (rn_A fr) (rn_A sp) (rn_A go) (rn_A nz) (rn_B pg) (rn_B cf) (rn_B ct) (rn_A tk) (rn_A en) (rn_B ch) (rn_A nw) (rn_A tl) → wpX_moveOn post (nI tn, rn_A ln, rn_A fm, rn_A tt, rn_A le, rn_A li, rn_A rk, rn_A we, rn_A op, rn_A ca, rn_A mk, rn_B wd, rn_B wn, rn_A pc, rn_A ph, rn_A pa, rn_A pe, rn_A pt, rn_A tp, rn_A ac, rn_A sz, rn_A dw, rn_A st, rn_A ty, rn_A ed, rn_B ps, rn_A fr, rn_A sp, rn_A go, rn_A nz, rn_B pg, rn_B cf, rn_B ct, rn_A tk, rn_A en, rn_B ch, rn_A nw, rn_A tl) (nI c) := by
    intro post h
    refine ⟨ic, nm_r (rn_rA (by omega)) ⟨ic, nm_r (rn_rA (by omega)) ⟨ic, ?_⟩⟩⟩
    have e2 : rn_A sp (nI c).toNatClampNeg - 2 = ri_z ((sp c : Int) - 2) := by rw [rn_rA (by omega), ri_n, show (2 : Int32) = ri_z 2 from ri_n 2, ri_sub]
    exact ek_f (ri_l e2 (ri_n _) (by omega) (by omega)) (fun _ => h) (fun k => by omega)
  have headY : ∀ post kn fa gp fs th, wY_move_34 post (nI c) (nI (ed c)) (nI kn) (nI tn) th (rn_T ln) (rn_A op) (rn_A fm) (rn_A tt) (rn_A le) (rn_A ln) (rn_A li) (rn_A rk) (rn_A we) (rn_A ca) (rn_A mk) (rn_A fa) (rn_A tp) (rn_A ac) (rn_A sz) (rn_A dw) (rn_A st) (rn_A ty) (rn_A ed) (rn_A la) (rn_A fr) (rn_A sp) (rn_A go) (rn_A nz) (rn_A tk) (rn_C ch) (rn_A en) (rn_A nw) (rn_A gr) (rn_A cr) (rn_A ne) (rn_A nl) (rn_A oe) (rn_A ol) (rn_A fl) (rn_A pc) (rn_A ph) (rn_A pa) (rn_A se) (rn_A ls) (rn_A mo) (rn_A tl) gp fs → wpY_move post (nI kn, nI tn, th, rn_T ln, rn_A op, rn_A fm, rn_A tt, rn_A le, rn_A ln, rn_A li, rn_A rk, rn_A we, rn_A ca, rn_A mk, rn_A fa, rn_A tp, rn_A ac, rn_A sz, rn_A dw, rn_A st, rn_A ty, rn_A ed, rn_A la, rn_A fr, rn_A sp, rn_A go, rn_A nz, rn_A tk, rn_C ch, rn_A en, rn_A nw, rn_A gr, rn_A cr, rn_A ne, rn_A nl, rn_A oe, rn_A ol, rn_A fl, rn_A pc, rn_A ph, rn_A pa, rn_A se, rn_A ls, rn_A mo, rn_A tl, gp, fs) (nI c) := by
    intro post kn fa gp fs th h
    refine ⟨ic, nm_r (rn_rA (by omega)) ⟨ic, ic, ?_⟩⟩
    have e2 : rn_A sp (nI c).toNatClampNeg - rn_A nw (nI c).toNatClampNeg = ri_z ((sp c : Int) - nw c) := by rw [rn_rA (by omega), rn_rA (by omega), ri_n, ri_n, ri_sub]
    exact ek_f (ri_l e2 (ri_n 2) (by omega) (by omega)) (fun _ => h) (fun k => by omega)
  obtain ⟨a1, a2, a3, a4, a5, a6, a7, a8⟩ := I
  have C1 := rq_mvA (c := c) (x := fr c + nw c) (y := nw c) a2 (by omega) hu
  rcases Nat.lt_or_ge (le (ed c)) (fr c + nw c) with z | z
  · rcases Nat.decEq (go c) (ed c) with g | g
    · -- crosses
      have pp : 0 < pg c := by
        rcases Nat.eq_zero_or_pos (pg c) with w | w
        · have := k0 w g; omega
        · exact w
      obtain ⟨g1, g2, g3, g4, g5⟩ := rq_pgS a2 hc pp
      have LL := a1.1 (ne c)
      have C2 := rq_mvX (c := c) (x := fr c + nw c - le (ed c)) C1 (fun e => (a1.1 e).1) hc pp (by omega)
      have hq2 : (pg c - 1) / 2 = ne c := by omega
      refine ⟨ru_p ca (ne c) (ca (ne c) + 1), st, ru_p ed c (ne c), ru_p (ru_p fr c (fr c + nw c)) c (fr c + nw c - le (ed c)), ru_p sp c (nw c), ru_p ps c (pg c), ru_p pg c 0, ru_p cf c (ps c), ru_p ct c (pg c), ru_p la c (nl c), ru_p gr c 0, ru_p cr c 1, ru_p oe c (ed c), ru_p ol c (la c), ru_p fl c (nl c), tl, ⟨a1, C2, a3, a4, a5, a6, a7, a8⟩, ?_, fun d hd => ?_, fun post h => headX post ?_, fun post kn fa gp fs th h => headY post kn fa gp fs th ?_⟩
      · refine ⟨fun w => by omega, fun _ w => by rw [q1] at w; omega, fun _ _ w => by rw [q1] at w; exact absurd w g, fun _ _ _ => ⟨pp, ru_s, ru_s, ?_, ru_s⟩⟩
        rw [q1, ru_s]; omega
      · rw [ru_n hd, ru_n hd, ru_n hd, ru_n hd, ru_n hd]; exact ⟨rfl, rfl, rfl, rfl⟩
      · refine ⟨ic, nm_r (rn_uA (by omega)) ⟨ic, ic, nm_r fu ⟨ic, ie, ?_⟩⟩⟩
        rw [lr, fr1]
        refine br_t (nI_lt z (by omega)) ⟨ic, ek_f (rn_e (rn_rA (by omega)) rfl (by omega) (by omega)) (fun k => absurd k g) (fun _ => ⟨ic, ?_⟩)⟩
        have gb : rn_B pg (nI c).toNatClampNeg = rn_c (pg c) := rn_rB (by omega)
        rw [gb, rn_rB (f := ps) (by omega)]
        have e1 : nI (fr c + nw c) - nI (le (ed c)) = nI (fr c + nw c - le (ed c)) := pk_sub (by omega)
        have e2 : rn_c (pg c) / 2 = nI (ne c) := by
          rw [rn_cs pp, show nI (pg c - 1) / 2 = nI ((pg c - 1) / 2) from pk_div (d := 2) (by omega) (by omega) (by omega), hq2]
        rw [e1, e2]
        refine br_f (fun k => by have := (rn_c2 (by omega)).mp k; omega) ⟨ic, ie, ic, nm_r (rn_uA (by omega)) ⟨ic, ic, nm_r (rn_uB (by omega)) ⟨ic, ic, nm_r (rn_uB (by omega)) ⟨ic, ic, nm_r (rn_uB (by omega)) ⟨ic, by decide, ic, nm_r (rn_uA (by omega)) ⟨ic, nm_r (rn_uB (x := 0) (by omega)) ⟨ic, ?_⟩⟩⟩⟩⟩⟩⟩
        have e3 : rn_A (ru_p ed c (ne c)) (nI c).toNatClampNeg = nI (ne c) := by rw [rn_rA (by omega), ru_s]
        rw [e3]
        refine ⟨vp_in_nI g5 (by omega), vp_in_nI g5 (by omega), nm_r (e' := rn_A (ru_p ca (ne c) (ca (ne c) + 1))) ?_ h⟩
        rw [rn_rA (by omega), nI_1]
        exact rn_uA (by omega)
      · have wl : rn_A nw (nI c).toNatClampNeg = nI (nw c) := rn_rA (by omega)
        unfold wY_move_34
        rw [wl]
        refine ⟨ic, ic, ic, nm_r fu ⟨ic, ic, nm_r (rn_uA (by omega)) ⟨ic, ie, ?_⟩⟩⟩
        rw [lr, fr1]
        refine br_f (nI_ge z (by omega)) ⟨ic, ?_⟩
        refine ek_f (rn_e rfl (rn_rA (by omega)) (by omega) (by omega)) (fun k => absurd k.symm g) (fun _ => ⟨ic, nm_r (rn_uA (by omega)) ⟨ic, ic, ?_⟩⟩)
        rw [rn_rA (f := la) (by omega), fr1, lr, rn_rA (f := ne) (by omega), rn_rA (f := nl) (by omega), rn_vb, rn_vf]
        have e1 : nI (fr c + nw c) - nI (le (ed c)) = nI (fr c + nw c - le (ed c)) := pk_sub (by omega)
        rw [e1]
        refine nm_r (rn_uA (by omega)) ⟨ic, ie, ic, nm_r (rn_uA (by omega)) ⟨ic, ic, nm_r (rn_uA (by omega)) ⟨ic, ic, nm_r (rn_uA (by omega)) ⟨ic, ic, nm_r (rn_uA (by omega)) ⟨ic, nm_r (rn_uA (x := 1) (by omega)) ⟨ic, nm_r (rn_uA (x := 0) (by omega)) ⟨ic, ?_⟩⟩⟩⟩⟩⟩⟩
        have e3 : rn_A (ru_p ed c (ne c)) (nI c).toNatClampNeg = nI (ne c) := by rw [rn_rA (by omega), ru_s]
        rw [e3]
        refine ⟨vp_in_nI g5 (by omega), vp_in_nI g5 (by omega), nm_r (e' := rn_A (ru_p ca (ne c) (ca (ne c) + 1))) ?_ h⟩
        rw [rn_rA (by omega), nI_1]
        exact rn_uA (by omega)
    · -- arrives
      have tv : ∀ f : Nat → Nat, f 0 = N → rn_A f 6 + (rn_A f 0 - rn_A en (nI c).toNatClampNeg) = nI (f 6 + (f 0 - en c)) := by
        intro f f0
        rw [rn_rA (by omega), show rn_A f 0 = nI (f 0) from rfl, show rn_A f 6 = nI (f 6) from rfl, pk_sub (by omega), nI_add]
      refine ⟨ca, ru_p st c 0, ed, ru_p fr c (fr c + nw c), ru_p sp c (nw c), ru_p ps c 0, ru_p pg c 0, ru_p cf c 0, ru_p ct c 0, la, ru_p gr c 0, cr, oe, ol, fl, ru_p (ru_p tl 2 (tl 2 + 1)) 6 (ru_p tl 2 (tl 2 + 1) 6 + (ru_p tl 2 (tl 2 + 1) 0 - en c)), ⟨a1, rq_mvB C1, a3, a4, a5, by rw [ru_n (by omega), ru_n (by omega)]; exact a6, a7, a8⟩, ?_, fun d hd => ?_, fun post h => headX post ?_, fun post kn fa gp fs th h => headY post kn fa gp fs th ?_⟩
      · exact ⟨fun w => by omega, fun _ w => by rw [q1] at w; omega, fun _ _ _ => ⟨ru_s, ru_s⟩, fun _ _ w => by rw [q1] at w; exact absurd g w⟩
      · rw [ru_n hd, ru_n hd, ru_n hd, ru_n hd]; exact ⟨rfl, rfl, rfl, rfl⟩
      · refine ⟨ic, nm_r (rn_uA (by omega)) ⟨ic, ic, nm_r fu ⟨ic, ie, ?_⟩⟩⟩
        rw [lr, fr1]
        refine br_t (nI_lt z (by omega)) ⟨ic, ek_f (rn_e (rn_rA (by omega)) rfl (by omega) (by omega)) (fun _ => nm_r (rn_u3 2) ⟨ic, nm_r (e' := rn_A (ru_p (ru_p tl 2 (tl 2 + 1)) 6 (ru_p tl 2 (tl 2 + 1) 6 + (ru_p tl 2 (tl 2 + 1) 0 - en c)))) ?_ (rx_to _ rfl hc h)⟩) (fun k => absurd g k)⟩
        rw [tv _ (by rw [ru_n (by omega)]; exact a6)]
        exact rn_uk
      · have wl : rn_A nw (nI c).toNatClampNeg = nI (nw c) := rn_rA (by omega)
        unfold wY_move_34
        rw [wl]
        refine ⟨ic, ic, ic, nm_r fu ⟨ic, ic, nm_r (rn_uA (by omega)) ⟨ic, ie, ?_⟩⟩⟩
        rw [lr, fr1]
        refine br_f (nI_ge z (by omega)) ⟨ic, ek_f (rn_e rfl (rn_rA (by omega)) (by omega) (by omega)) (fun _ => ⟨ic, nm_r (rn_uA (x := 0) (by omega)) ⟨ic, nm_r (rn_uA (x := 0) (by omega)) (nm_r (rn_u3 2) ⟨ic, nm_r (e' := rn_A (ru_p (ru_p tl 2 (tl 2 + 1)) 6 (ru_p tl 2 (tl 2 + 1) 6 + (ru_p tl 2 (tl 2 + 1) 0 - en c)))) ?_ h⟩)⟩⟩) (fun k => absurd g.symm k)⟩
        rw [tv _ (by rw [ru_n (by omega)]; exact a6)]
        exact rn_uk
  · -- stays
    refine ⟨ca, st, ed, ru_p fr c (fr c + nw c), ru_p sp c (nw c), ps, pg, cf, ct, la, gr, cr, oe, ol, fl, tl, ⟨a1, C1, a3, a4, a5, a6, a7, a8⟩, ?_, fun d hd => ?_, fun post h => headX post ?_, fun post kn fa gp fs th h => headY post kn fa gp fs th ?_⟩
    · exact ⟨fun w => by omega, fun _ _ => ⟨rfl, rfl, ru_s, ru_s⟩, fun _ w => by rw [q1] at w; omega, fun _ w => by rw [q1] at w; omega⟩
    · rw [ru_n hd, ru_n hd]; exact ⟨rfl, rfl, rfl, rfl⟩
    · refine ⟨ic, nm_r (rn_uA (by omega)) ⟨ic, ic, nm_r fu ⟨ic, ie, ?_⟩⟩⟩
      rw [lr, fr1]
      exact br_f (nI_nlt z (by omega)) h
    · have wl : rn_A nw (nI c).toNatClampNeg = nI (nw c) := rn_rA (by omega)
      unfold wY_move_34
      rw [wl]
      refine ⟨ic, ic, ic, nm_r fu ⟨ic, ic, nm_r (rn_uA (by omega)) ⟨ic, ie, ?_⟩⟩⟩
      rw [lr, fr1]
      exact br_t (nI_le z (by omega)) h
end
