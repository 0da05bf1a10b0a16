/-! MOVES, to the end -/
section
variable {ln fm tt le li rk we op ca mk wd wn fa pc ph pa pe pt se ls mo tp ac sz dw st ty ed fr sp go nz tk en ch nw ps pg cf ct la gr cr ne nl oe ol fl tl : Nat → Nat} {tn kn N : Nat} {th : Int32} {gp fs : Nat → Int32}
theorem rl_mvs {ps0 pg0 fr0 sp0 : Nat → Nat} (hU : ∀ c, c < 32 → 0 < ps0 c → nw c ≤ 12 ∧ sp0 c ≤ nw c + 2 ∧ fr0 c ≤ le (rd_q (ps0 c)) ∧ (pg0 c = 0 → go c ≠ rd_q (ps0 c) → fr0 c + nw c ≤ le (rd_q (ps0 c))) ∧ (0 < pg0 c → go c ≠ rd_q (ps0 c))) :
    ∀ d i, i + d = 32 → ∀ ca st ed fr sp ps pg cf ct la gr cr oe ol fl tl : Nat → Nat, (rq_L ln fm tt le li rk we op mk wd wn pc ph pa pe pt se ls mo tp ac sz dw st ty ed fr sp go tk en ch ps pg cf ct la gr cr ne nl oe ol fl tl tn N) → (∀ c, c < i → rd_M1 le ps0 pg0 fr0 go nw ps pg fr sp c) → (∀ c, i ≤ c → c < 32 → ps c = ps0 c ∧ pg c = pg0 c ∧ fr c = fr0 c ∧ sp c = sp0 c) →
    ∃ ca' st' ed' fr' sp' ps' pg' cf' ct' la' gr' cr' oe' ol' fl' tl' : Nat → Nat, (rq_L ln fm tt le li rk we op mk wd wn pc ph pa pe pt se ls mo tp ac sz dw st' ty ed' fr' sp' go tk en ch ps' pg' cf' ct' la' gr' cr' ne nl oe' ol' fl' tl' tn N) ∧
    (∀ c, c < 32 → rd_M1 le ps0 pg0 fr0 go nw ps' pg' fr' sp' c) ∧
    (∀ post, post (nI tn, rn_A ln, rn_A fm, rn_A tt, rn_A le, rn_A li, rn_A rk, rn_A we, rn_A op, rn_A ca', rn_A mk, rn_B wd, rn_B wn, rn_A pc, rn_A ph, rn_A pa, rn_A pe, rn_A pt, rn_A tp, rn_A ac, rn_A sz, rn_A dw, rn_A st', rn_A ty, rn_A ed', rn_B ps', rn_A fr', rn_A sp', rn_A go, rn_A nz, rn_B pg', rn_B cf', rn_B ct', rn_A tk, rn_A en, rn_B ch, rn_A nw, rn_A tl') → wX_moveCars_44 post (d + 1) (nI i) (nI tn) (rn_A ln) (rn_A fm) (rn_A tt) (rn_A le) (rn_A li) (rn_A rk) (rn_A we) (rn_A op) (rn_A ca) (rn_A mk) (rn_B wd) (rn_B wn) (rn_A pc) (rn_A ph) (rn_A pa) (rn_A pe) (rn_A pt) (rn_A tp) (rn_A ac) (rn_A sz) (rn_A dw) (rn_A st) (rn_A ty) (rn_A ed) (rn_B ps) (rn_A fr) (rn_A sp) (rn_A go) (rn_A nz) (rn_B pg) (rn_B cf) (rn_B ct) (rn_A tk) (rn_A en) (rn_B ch) (rn_A nw) (rn_A tl)) ∧
    (∀ post kn fa gp fs th, (∃ n155, wY_stepOn_155 post n155 0 (nI kn) (nI tn) th (rn_T ln) (rn_A op) (rn_A fm) (rn_A tt) (rn_A le) (rn_A ln) (rn_A li) (rn_A rk) (rn_A we) (rn_A ca') (rn_A mk) (rn_A fa) (rn_A tp) (rn_A ac) (rn_A sz) (rn_A dw) (rn_A st') (rn_A ty) (rn_A ed') (rn_A la') (rn_A fr') (rn_A sp') (rn_A go) (rn_A nz) (rn_A tk) (rn_C ch) (rn_A en) (rn_A nw) (rn_A gr') (rn_A cr') (rn_A ne) (rn_A nl) (rn_A oe') (rn_A ol') (rn_A fl') (rn_A pc) (rn_A ph) (rn_A pa) (rn_A se) (rn_A ls) (rn_A mo) (rn_A tl') gp fs) → wY_stepOn_126 post (d + 1) (nI i) (nI kn) (nI tn) th (rn_T ln) (rn_A op) (rn_A fm) (rn_A tt) (rn_A le) (rn_A ln) (rn_A li) (rn_A rk) (rn_A we) (rn_A ca) (rn_A mk) (rn_A fa) (rn_A tp) (rn_A ac) (rn_A sz) (rn_A dw) (rn_A st) (rn_A ty) (rn_A ed) (rn_A la) (rn_A fr) (rn_A sp) (rn_A go) (rn_A nz) (rn_A tk) (rn_C ch) (rn_A en) (rn_A nw) (rn_A gr) (rn_A cr) (rn_A ne) (rn_A nl) (rn_A oe) (rn_A ol) (rn_A fl) (rn_A pc) (rn_A ph) (rn_A pa) (rn_A se) (rn_A ls) (rn_A mo) (rn_A tl) gp fs) := by
  intro d
  induction d with
  | zero =>
    intro i hi ca st ed fr sp ps pg cf ct la gr cr oe ol fl tl I hM hS
    have e : i = 32 := by omega
    subst e
    exact ⟨ca, st, ed, fr, sp, ps, pg, cf, ct, la, gr, cr, oe, ol, fl, tl, I, hM, fun post h => br_t (by decide) h, fun post kn fa gp fs th h => br_t (by decide) h⟩
  | succ d ih =>
    intro i hi ca st ed fr sp ps pg cf ct la gr cr oe ol fl tl I hM hS
    have i32 : i < 32 := by omega
    have A := rI_c I i
    obtain ⟨s1, s2, s3, s4⟩ := hS i (Nat.le_refl _) i32
    rcases Nat.decEq (st i) 2 with q | q
    · have P := (rI_p I i32).2.2.2.2.1 q
      obtain ⟨ca', st', ed', fr', sp', ps', pg', cf', ct', la', gr', cr', oe', ol', fl', tl', I', M', hx, hy⟩ := ih (i + 1) (by omega) ca st ed fr sp ps pg cf ct la gr cr oe ol fl tl I (lt_s hM ⟨fun _ => ⟨P.1, P.2.1⟩, fun w => by omega, fun w => by omega, fun w => by omega⟩) (fun c h1 h2 => hS c (by omega) h2)
      refine ⟨ca', st', ed', fr', sp', ps', pg', cf', ct', la', gr', cr', oe', ol', fl', tl', I', M', fun post h => br_f (nI_ge (b := 32) i32 (by decide)) ⟨pk_in i 32 i32, ?_⟩, fun post kn fa gp fs th h => br_f (nI_ge (b := 32) i32 (by decide)) ⟨pk_in i 32 i32, ?_⟩⟩
      · exact ek_f (rn_e (rn_rA (by omega)) (b := 2) rfl (by omega) (by omega)) (fun k => absurd k q) (fun _ => nm_r (nI_1 i) (hx post h))
      · exact ek_f (rn_e (rn_rA (by omega)) (b := 2) rfl (by omega) (by omega)) (fun k => absurd k q) (fun _ => nm_r (nI_1 i) (hy post kn fa gp fs th h))
    · obtain ⟨q1, q2, q3, q4, q5, q6⟩ := rq_psE I.2.1 i32 q
      obtain ⟨u1, u2, u3, u4, u5⟩ := hU i i32 (by omega)
      rw [← s1, q1] at u3 u4 u5
      rw [← s2] at u4 u5
      rw [← s3] at u3 u4
      rw [← s4] at u2
      obtain ⟨ca1, st1, ed1, fr1, sp1, ps1, pg1, cf1, ct1, la1, gr1, cr1, oe1, ol1, fl1, tl1, I1, M1, O1, x1, y1⟩ := rl_mv1 (ca := ca) (nw := nw) I i32 q u1 u2 u3 u4 u5
      have M2 : ∀ c, c < i + 1 → rd_M1 le ps0 pg0 fr0 go nw ps1 pg1 fr1 sp1 c := by
        intro c hc
        rcases Nat.decEq c i with z | z
        · obtain ⟨o1, o2, o3, o4⟩ := O1 c z
          have := hM c (by omega)
          unfold rd_M1 at this ⊢
          rw [o1, o2, o3, o4]
          exact this
        · subst z
          unfold rd_M1 at M1 ⊢
          rw [← s1, ← s2, ← s3]
          exact M1
      obtain ⟨ca', st', ed', fr', sp', ps', pg', cf', ct', la', gr', cr', oe', ol', fl', tl', I', M', hx, hy⟩ := ih (i + 1) (by omega) ca1 st1 ed1 fr1 sp1 ps1 pg1 cf1 ct1 la1 gr1 cr1 oe1 ol1 fl1 tl1 I1 M2 (fun c h1 h2 => by
        obtain ⟨o1, o2, o3, o4⟩ := O1 c (by omega)
        rw [o1, o2, o3, o4]
        exact hS c (by omega) h2)
      refine ⟨ca', st', ed', fr', sp', ps', pg', cf', ct', la', gr', cr', oe', ol', fl', tl', I', M', fun post h => br_f (nI_ge (b := 32) i32 (by decide)) ⟨pk_in i 32 i32, ?_⟩, fun post kn fa gp fs th h => br_f (nI_ge (b := 32) i32 (by decide)) ⟨pk_in i 32 i32, ?_⟩⟩
      · exact ek_f (rn_e (rn_rA (by omega)) (b := 2) rfl (by omega) (by omega)) (fun _ => x1 _ (nm_r (nI_1 i) (hx post h))) (fun k => absurd q k)
      · exact ek_f (rn_e (rn_rA (by omega)) (b := 2) rfl (by omega) (by omega)) (fun _ => y1 _ kn fa gp fs th (nm_r (nI_1 i) (hy post kn fa gp fs th h))) (fun k => absurd q k)
theorem rl_mv (I : (rq_I ln fm tt le li rk we op mk wd wn pc ph pa pe pt se ls mo tp ac sz dw st ty ed fr sp go tk en ch ps pg cf ct la gr cr ne nl oe ol fl tl tn N)) : ∃ nz' nw' ca' st' ed' fr' sp' ps' pg' cf' ct' la' gr' cr' oe' ol' fl' tl' : Nat → Nat, (rq_I ln fm tt le li rk we op mk wd wn pc ph pa pe pt se ls mo tp ac sz dw st' ty ed' fr' sp' go tk en ch ps' pg' cf' ct' la' gr' cr' ne nl oe' ol' fl' tl' tn N) ∧
    (∀ post, post (nI tn, rn_A ln, rn_A fm, rn_A tt, rn_A le, rn_A li, rn_A rk, rn_A we, rn_A op, rn_A ca', rn_A mk, rn_B wd, rn_B wn, rn_A pc, rn_A ph, rn_A pa, rn_A pe, rn_A pt, rn_A tp, rn_A ac, rn_A sz, rn_A dw, rn_A st', rn_A ty, rn_A ed', rn_B ps', rn_A fr', rn_A sp', rn_A go, rn_A nz', rn_B pg', rn_B cf', rn_B ct', rn_A tk, rn_A en, rn_B ch, rn_A nw', rn_A tl') → wpX_moveCars post (nI tn, rn_A ln, rn_A fm, rn_A tt, rn_A le, rn_A li, rn_A rk, rn_A we, rn_A op, rn_A ca, rn_A mk, rn_B wd, rn_B wn, rn_A pc, rn_A ph, rn_A pa, rn_A pe, rn_A pt, rn_A tp, rn_A ac, rn_A sz, rn_A dw, rn_A st, rn_A ty, rn_A ed, rn_B ps, rn_A fr, rn_A sp, rn_A go, rn_A nz, rn_B pg, rn_B cf, rn_B ct, rn_A tk, rn_A en, rn_B ch, rn_A nw, rn_A tl)) ∧
    (∀ post kn fa gp fs th, (∀ gp fs th, ∃ n155, wY_stepOn_155 post n155 0 (nI kn) (nI tn) th (rn_T ln) (rn_A op) (rn_A fm) (rn_A tt) (rn_A le) (rn_A ln) (rn_A li) (rn_A rk) (rn_A we) (rn_A ca') (rn_A mk) (rn_A fa) (rn_A tp) (rn_A ac) (rn_A sz) (rn_A dw) (rn_A st') (rn_A ty) (rn_A ed') (rn_A la') (rn_A fr') (rn_A sp') (rn_A go) (rn_A nz') (rn_A tk) (rn_C ch) (rn_A en) (rn_A nw') (rn_A gr') (rn_A cr') (rn_A ne) (rn_A nl) (rn_A oe') (rn_A ol') (rn_A fl') (rn_A pc) (rn_A ph) (rn_A pa) (rn_A se) (rn_A ls) (rn_A mo) (rn_A tl') gp fs) → ∃ n97, wY_stepOn_97 post n97 0 (nI kn) (nI tn) th (rn_T ln) (rn_A op) (rn_A fm) (rn_A tt) (rn_A le) (rn_A ln) (rn_A li) (rn_A rk) (rn_A we) (rn_A ca) (rn_A mk) (rn_A fa) (rn_A tp) (rn_A ac) (rn_A sz) (rn_A dw) (rn_A st) (rn_A ty) (rn_A ed) (rn_A la) (rn_A fr) (rn_A sp) (rn_A go) (rn_A nz) (rn_A tk) (rn_C ch) (rn_A en) (rn_A nw) (rn_A gr) (rn_A cr) (rn_A ne) (rn_A nl) (rn_A oe) (rn_A ol) (rn_A fl) (rn_A pc) (rn_A ph) (rn_A pa) (rn_A se) (rn_A ls) (rn_A mo) (rn_A tl) gp fs) := by
  obtain ⟨nz', nw', h1, _, hx, hy⟩ := rl_ch I 32 0 rfl nz nw
  have st2 : ∀ c, c < 32 → 0 < ps c → st c = 2 := by
    intro c hc h
    rcases Nat.decEq (st c) 2 with z | z
    · have := ((rI_p I.1 hc).2.2.2.2.1 z).1; omega
    · exact z
  have U1 : ∀ c, c < 32 → 0 < ps c → nw' c ≤ 12 ∧ sp c ≤ nw' c + 2 ∧ (∀ a, a < 32 → ps a = ps c → fr c < fr a → rd_Bd (fr c) (nw' c) (fr a) (sp a) (sz (ty a))) ∧ (0 < pg c → ∀ b, b < 32 → ps b = pg c → rd_Bd (fr c) (nw' c) (fr b + le (rd_q (ps c))) (sp b) (sz (ty b))) ∧ (pg c = 0 → go c ≠ rd_q (ps c) → nw' c = 0 ∨ nw' c + rd_D (nw' c) + fr c ≤ le (rd_q (ps c))) ∧ (0 < pg c → go c ≠ rd_q (pg c) → nw' c = 0 ∨ nw' c + rd_D (nw' c) + fr c ≤ le (rd_q (ps c)) + le (rd_q (pg c))) := by
    intro c hc hp
    have T := rI_y I.1 c
    obtain ⟨v, hv, hw⟩ := h1 c (Nat.zero_le _) hc (st2 c hc hp)
    exact rq_U1 I.1.2.1 I.2 hc (st2 c hc hp) T.2.2.1 T.2.1 hv hw
  have hU : rd_U le ps pg fr sp go (fun x => sz (ty x)) nw' := fun c hc hp => (U1 c hc hp).2
  obtain ⟨ca', st', ed', fr', sp', ps', pg', cf', ct', la', gr', cr', oe', ol', fl', tl', I', M', mx, my⟩ := rl_mvs (nw := nw') (nz := nz') (ps0 := ps) (pg0 := pg) (fr0 := fr) (sp0 := sp) (fun c hc hp => by
      obtain ⟨b1, b2, _, _, b5, _⟩ := U1 c hc hp
      have F := (I.2.2.2.2.2.2 c hc).1 hp
      refine ⟨b1, b2, F.2, fun g0 gn => ?_, fun g0 => ((I.2.2.2.2.2.2 c hc).2 g0).2.2.1⟩
      rcases b5 g0 gn with z | z <;> omega) 32 0 rfl ca st ed fr sp ps pg cf ct la gr cr oe ol fl tl I.1 (fun c hc => absurd hc (Nat.not_lt_zero c)) (fun c _ _ => ⟨rfl, rfl, rfl, rfl⟩)
  refine ⟨nz', nw', ca', st', ed', fr', sp', ps', pg', cf', ct', la', gr', cr', oe', ol', fl', tl', ⟨I', rd_mAll I.2 (fun c hc hg => ?_) (fun c hc hp => (U1 c hc hp).1) hU M'⟩, fun post h => ⟨33, hx post ⟨33, mx post h⟩⟩, fun post kn fa gp fs th h => ⟨33, hy post kn fa gp fs th (fun gp fs th => ⟨33, my post kn fa gp fs th (h gp fs th)⟩)⟩⟩
  obtain ⟨g1, g2, g3, g4, g5⟩ := rq_pgS I.1.2.1 hc hg
  have LL := rI_e I.1 (ne c)
  rw [g3, rd_qE (by omega)]
  exact (rI_t I.1 (by omega)).2.1
end
