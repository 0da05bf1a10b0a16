/-! ENTRIES -/
section
variable {ln fm tt le li rk we op ca mk wd wn fa pc ph pa pe pt se ls mo tp ac sz dw st ty ed fr sp go nz tk en ch nw ps pg cf ct la gr cr ne nl oe ol fl tl : Nat → Nat} {tn kn N : Nat} {th : Int32} {gp fs : Nat → Int32}
/-- the lane to enter: l of the edge, by code; 0 for none -/
def rq_se (ln fm tt mk wn ed go : Nat → Nat) (c s : Nat) : Prop := (s = 0 ∧ go c ≠ ed c ∧ rq_nx wn ed go c = 0) ∨ (go c = ed c ∧ s = 2 * ed c + 1) ∨ (go c ≠ ed c ∧ 0 < rq_nx wn ed go c ∧ (rq_ld ln fm tt mk) (2 * ed c) (rq_nx wn ed go c - 1) ∧ s = 2 * ed c + 1) ∨ (go c ≠ ed c ∧ 0 < rq_nx wn ed go c ∧ ¬ (rq_ld ln fm tt mk) (2 * ed c) (rq_nx wn ed go c - 1) ∧ ln (ed c) = 2 ∧ (rq_ld ln fm tt mk) (2 * ed c + 1) (rq_nx wn ed go c - 1) ∧ s = 2 * ed c + 2)
theorem rq_seX (I : (rq_L ln fm tt le li rk we op mk wd wn pc ph pa pe pt se ls mo tp ac sz dw st ty ed fr sp go tk en ch ps pg cf ct la gr cr ne nl oe ol fl tl tn N)) (c : Nat) : ∃ s, rq_se ln fm tt mk wn ed go c s := by
  obtain ⟨x1, x2⟩ := rI_nx I c
  rcases Nat.decEq (go c) (ed c) with q | q
  · rcases Nat.eq_zero_or_pos ((rq_nx wn ed go) c) with z | z
    · exact ⟨0, Or.inl ⟨rfl, q, z⟩⟩
    · rcases (x2 z).2.2.2 with w | w
      · exact ⟨_, Or.inr (Or.inr (Or.inl ⟨q, z, w, rfl⟩))⟩
      · rcases Classical.em ((rq_ld ln fm tt mk) (2 * ed c) ((rq_nx wn ed go) c - 1)) with y | y
        · exact ⟨_, Or.inr (Or.inr (Or.inl ⟨q, z, y, rfl⟩))⟩
        · exact ⟨_, Or.inr (Or.inr (Or.inr ⟨q, z, y, w.1, w.2, rfl⟩))⟩
  · exact ⟨_, Or.inr (Or.inl ⟨q, rfl⟩)⟩
theorem rx_se (post : Int32 → Prop) {c s : Nat} {x : Int32} (hx : x = nI c) (I : (rq_L ln fm tt le li rk we op mk wd wn pc ph pa pe pt se ls mo tp ac sz dw st ty ed fr sp go tk en ch ps pg cf ct la gr cr ne nl oe ol fl tl tn N)) (hc : c < 32) (hl : 0 < ln (ed c)) (hs : rq_se ln fm tt mk wn ed go c s) (h : post (rn_c s)) : wpX_spotToEnter post (nI tn, rn_A ln, rn_A fm, rn_A tt, rn_A le, rn_A li, rn_A rk, rn_A we, rn_A op, rn_A ca, rn_A mk, rn_B wd, rn_B wn, rn_A pc, rn_A ph, rn_A pa, rn_A pe, rn_A pt, rn_A tp, rn_A ac, rn_A sz, rn_A dw, rn_A st, rn_A ty, rn_A ed, rn_B ps, rn_A fr, rn_A sp, rn_A go, rn_A nz, rn_B pg, rn_B cf, rn_B ct, rn_A tk, rn_A en, rn_B ch, rn_A nw, rn_A tl) x := by
  subst hx
  have A := rI_c I c
  have B := rI_e I (ed c)
  obtain ⟨x1, x2⟩ := rI_nx I c
  have m2 : (2 : Int32) * nI (ed c) = nI (2 * ed c) := pk_mul 2 _
  refine ⟨pk_in c 32 hc, nm_r (rn_rA (by omega)) ⟨pk_in c 32 hc, ?_⟩⟩
  refine ek_f (rn_e (rn_rA (by omega)) rfl (by omega) (by omega)) (fun k => ?_) (fun k => ?_)
  · rw [m2]
    rcases hs with z | z | z | z
    · exact absurd k z.2.1
    · rw [z.2] at h; exact h
    · exact absurd k z.1
    · exact absurd k z.1
  · refine rx_nx _ rfl hc (rI_ed I) (fun c => (rI_c I c).2.2.2.1) ⟨3, vp_in_nI (by omega) (by omega), ?_⟩
    have e0 : (2 : Int32) * nI (ed c) + 0 = nI (2 * ed c) := by rw [m2]; exact Int32.add_zero _
    have e1 : (2 : Int32) * nI (ed c) + nI 1 = nI (2 * ed c + 1) := by rw [m2, nI_add]
    refine pk_le (ln (ed c)) 0 (fun z => by omega) (fun _ => rx_ld _ e0 rfl I.1 (by omega) x1 ?_) (rn_rA (by omega))
    rw [e0]
    refine rb_b (fun k1 => nm_r (e' := nI 1) rfl ⟨vp_in_nI (by omega) (by omega), ?_⟩) (fun k1 => ?_)
    · refine pk_le (ln (ed c)) 1 (fun k2 => ?_) (fun k2 => rx_ld _ e1 rfl I.1 (by omega) x1 ?_) (rn_rA (by omega))
      · rcases hs with z | z | z | z
        · rw [z.1] at h; exact h
        · exact absurd z.1 k
        · exact absurd ⟨z.2.1, z.2.2.1⟩ k1
        · omega
      · rw [e1]
        refine rb_b (fun k3 => nm_r (e' := nI 2) rfl ⟨vp_in_nI (by omega) (by omega), pk_le (ln (ed c)) 2 (fun _ => ?_) (fun z => by omega) (rn_rA (by omega))⟩) (fun k3 => ?_)
        · rcases hs with z | z | z | z
          · rw [z.1] at h; exact h
          · exact absurd z.1 k
          · exact absurd ⟨z.2.1, z.2.2.1⟩ k1
          · exact absurd ⟨z.2.1, z.2.2.2.2.1⟩ k3
        · rcases hs with z | z | z | z
          · omega
          · exact absurd z.1 k
          · exact absurd ⟨z.2.1, z.2.2.1⟩ k1
          · rw [z.2.2.2.2.2] at h; exact h
    · rcases hs with z | z | z | z
      · omega
      · exact absurd z.1 k
      · rw [z.2.2.2] at h; exact h
      · exact absurd k1.2 z.2.2.1
theorem rl_let {e c : Nat} (I : (rq_I ln fm tt le li rk we op mk wd wn pc ph pa pe pt se ls mo tp ac sz dw st ty ed fr sp go tk en ch ps pg cf ct la gr cr ne nl oe ol fl tl tn N)) (he : e < 16) (hle : 0 < ln e) (hc : c < 32) (h1 : st c = 1) (hed : ed c = e) (hfw : rd_fw st ed tk e 32 = c + 1) :
    ∃ ca' st' fr' sp' en' ps' la' cr' tl' : Nat → Nat, (rq_I ln fm tt le li rk we op mk wd wn pc ph pa pe pt se ls mo tp ac sz dw st' ty ed fr' sp' go tk en' ch ps' pg cf ct la' gr cr' ne nl oe ol fl tl' tn N) ∧
    (∀ post, post (nI tn, rn_A ln, rn_A fm, rn_A tt, rn_A le, rn_A li, rn_A rk, rn_A we, rn_A op, rn_A ca', rn_A mk, rn_B wd, rn_B wn, rn_A pc, rn_A ph, rn_A pa, rn_A pe, rn_A pt, rn_A tp, rn_A ac, rn_A sz, rn_A dw, rn_A st', rn_A ty, rn_A ed, rn_B ps', rn_A fr', rn_A sp', rn_A go, rn_A nz, rn_B pg, rn_B cf, rn_B ct, rn_A tk, rn_A en', rn_B ch, rn_A nw, rn_A tl') → wpX_letIn post (nI tn, rn_A ln, rn_A fm, rn_A tt, rn_A le, rn_A li, rn_A rk, rn_A we, rn_A op, rn_A ca, rn_A mk, rn_B wd, rn_B wn, rn_A pc, rn_A ph, rn_A pa, rn_A pe, rn_A pt, rn_A tp, rn_A ac, rn_A sz, rn_A dw, rn_A st, rn_A ty, rn_A ed, rn_B ps, rn_A fr, rn_A sp, rn_A go, rn_A nz, rn_B pg, rn_B cf, rn_B ct, rn_A tk, rn_A en, rn_B ch, rn_A nw, rn_A tl) (nI c)) ∧
    (∀ post kn fa gp fs th, (rq_WY ln fm tt le li we op mk fa kn) → (∀ kn fa, (rq_WY ln fm tt le li we op mk fa kn) → post (nI kn, nI tn, th, rn_T ln, rn_A op, rn_A fm, rn_A tt, rn_A le, rn_A ln, rn_A li, rn_A rk, rn_A we, rn_A ca', rn_A mk, rn_A fa, rn_A tp, rn_A ac, rn_A sz, rn_A dw, rn_A st', rn_A ty, rn_A ed, rn_A la', rn_A fr', rn_A sp', rn_A go, rn_A nz, rn_A tk, rn_C ch, rn_A en', rn_A nw, rn_A gr, rn_A cr', rn_A ne, rn_A nl, rn_A oe, rn_A ol, rn_A fl, rn_A pc, rn_A ph, rn_A pa, rn_A se, rn_A ls, rn_A mo, rn_A tl', gp, fs)) → wpY_enter post (nI kn, nI tn, th, rn_T ln, rn_A op, rn_A fm, rn_A tt, rn_A le, rn_A ln, rn_A li, rn_A rk, rn_A we, rn_A ca, rn_A mk, rn_A fa, rn_A tp, rn_A ac, rn_A sz, rn_A dw, rn_A st, rn_A ty, rn_A ed, rn_A la, rn_A fr, rn_A sp, rn_A go, rn_A nz, rn_A tk, rn_C ch, rn_A en, rn_A nw, rn_A gr, rn_A cr, rn_A ne, rn_A nl, rn_A oe, rn_A ol, rn_A fl, rn_A pc, rn_A ph, rn_A pa, rn_A se, rn_A ls, rn_A mo, rn_A tl, gp, fs) (nI e)) := by
  have A := rI_c I.1 c
  have S := rI_y I.1 c
  have B := rI_e I.1 e
  have P := rI_p I.1 hc
  have ic : vp_in (nI c) 32 := pk_in c 32 hc
  have hT : ∀ c, ty c < 4 := fun c => (rI_c I.1 c).2.1
  obtain ⟨x1, x2⟩ := rI_nx I.1 c
  obtain ⟨s, hs⟩ := rq_seX I.1 c
  have C0 := I.1.2.2.2.2.2
  -- Y up to the lane
  have headY : ∀ (post : SY → Prop) kn fa gp fs th, (rq_WY ln fm tt le li we op mk fa kn) → (∀ kn fa, (rq_WY ln fm tt le li we op mk fa kn) → (s = 0 → post (nI kn, nI tn, th, rn_T ln, rn_A op, rn_A fm, rn_A tt, rn_A le, rn_A ln, rn_A li, rn_A rk, rn_A we, rn_A ca, rn_A mk, rn_A fa, rn_A tp, rn_A ac, rn_A sz, rn_A dw, rn_A st, rn_A ty, rn_A ed, rn_A la, rn_A fr, rn_A sp, rn_A go, rn_A nz, rn_A tk, rn_C ch, rn_A en, rn_A nw, rn_A gr, rn_A cr, rn_A ne, rn_A nl, rn_A oe, rn_A ol, rn_A fl, rn_A pc, rn_A ph, rn_A pa, rn_A se, rn_A ls, rn_A mo, rn_A tl, gp, fs)) ∧ ∀ l, l ≤ 1 → s = 2 * e + l + 1 → wY_enter_48 post (nI e) (nI c) (nI l) (nI kn) (nI tn) th (rn_T ln) (rn_A op) (rn_A fm) (rn_A tt) (rn_A le) (rn_A ln) (rn_A li) (rn_A rk) (rn_A we) (rn_A ca) (rn_A mk) (rn_A fa) (rn_A tp) (rn_A ac) (rn_A sz) (rn_A dw) (rn_A st) (rn_A ty) (rn_A ed) (rn_A la) (rn_A fr) (rn_A sp) (rn_A go) (rn_A nz) (rn_A tk) (rn_C ch) (rn_A en) (rn_A nw) (rn_A gr) (rn_A cr) (rn_A ne) (rn_A nl) (rn_A oe) (rn_A ol) (rn_A fl) (rn_A pc) (rn_A ph) (rn_A pa) (rn_A se) (rn_A ls) (rn_A mo) (rn_A tl) gp fs) → wpY_enter post (nI kn, nI tn, th, rn_T ln, rn_A op, rn_A fm, rn_A tt, rn_A le, rn_A ln, rn_A li, rn_A rk, rn_A we, rn_A ca, rn_A mk, rn_A fa, rn_A tp, rn_A ac, rn_A sz, rn_A dw, rn_A st, rn_A ty, rn_A ed, rn_A la, rn_A fr, rn_A sp, rn_A go, rn_A nz, rn_A tk, rn_C ch, rn_A en, rn_A nw, rn_A gr, rn_A cr, rn_A ne, rn_A nl, rn_A oe, rn_A ol, rn_A fl, rn_A pc, rn_A ph, rn_A pa, rn_A se, rn_A ls, rn_A mo, rn_A tl, gp, fs) (nI e) := by
    intro post kn fa gp fs th hW h
    unfold wpY_enter
    refine ry_fw _ rfl he (rI_st I.1) (rI_ed I.1) (rI_tk I.1) ?_
    rw [hfw]
    refine br_t (nI_pos' (n := c) (by omega)) (ry_nxo _ rfl I.1 hW hc (fun kn fa hW' => ⟨ic, ?_⟩))
    obtain ⟨h0, hl⟩ := h kn fa hW'
    have gr1 : rn_A go (rn_y (c + 1)).toNatClampNeg = nI (go c) := rn_rA (by omega)
    rw [gr1]
    refine ek_f (rn_e rfl rfl (by omega) (by omega)) (fun k => ?_) (fun k => ?_)
    · refine hl 0 (by omega) ?_
      rcases hs with z | z | z | z
      · exact absurd (by omega) z.2.1
      · omega
      · exact absurd (by omega) z.1
      · exact absurd (by omega) z.1
    · refine ek_f (rn_c0 (by omega)) (fun k2 => ?_) (fun k2 => h0 ?_)
      · refine ry_ld _ rfl (l := 0) rfl (rn_cs k2) I.1.1 he (by omega) (by omega) (rb_b (fun k3 => ?_) (fun k3 => ?_))
        · refine hl 1 (by omega) ?_
          rcases hs with z | z | z | z
          · omega
          · exact absurd (by omega) k
          · rw [hed] at z; exact absurd z.2.2.1 k3
          · omega
        · refine hl 0 (by omega) ?_
          rcases hs with z | z | z | z
          · omega
          · exact absurd (by omega) k
          · omega
          · rw [hed] at z; exact absurd k3 z.2.2.1
      · rcases hs with z | z | z | z
        · exact z.1
        · exact absurd (by omega) k
        · omega
        · omega
  rcases Nat.eq_zero_or_pos s with s0 | s0
  · refine ⟨ca, st, fr, sp, en, ps, la, cr, tl, I, fun post h => ?_, fun post kn fa gp fs th hW h => headY post kn fa gp fs th hW (fun kn fa hW' => ⟨fun _ => h kn fa hW', fun l _ hl => by omega⟩)⟩
    unfold wpX_letIn
    refine rx_se _ rfl I.1 hc (by rw [hed]; exact hle) hs ?_
    rw [s0]
    exact br_t rfl h
  · obtain ⟨l, hl1, hl2, hls⟩ : ∃ l, l ≤ 1 ∧ l < ln e ∧ s = 2 * e + l + 1 := by
      have hs' := hs
      unfold rq_se at hs'
      rw [hed] at hs'
      rcases hs' with z | z | z | z
      · omega
      · exact ⟨0, by omega, hle, by omega⟩
      · exact ⟨0, by omega, hle, by omega⟩
      · exact ⟨1, by omega, by omega, by omega⟩
    obtain ⟨m1, m2⟩ := rI_nr I.1 e l 0 hl1
    rw [← hls] at m1 m2
    generalize hm : (rd_nr ps fr) s 0 32 = m at *
    have uniq : ∀ l', s = 2 * e + l' + 1 → l' = l := fun l' h => by omega
    -- whether it goes in
    rcases Classical.em ((¬ ∃ d, d < 32 ∧ pg d = s) ∧ (m = 0 ∨ sz (ty c) + sz (ty (m - 1)) + 1 ≤ fr (m - 1))) with E | E
    · have ps0 := ((rI_p I.1 hc).2.2.2.2.1 (by omega)).1
      have Sf := rq_enterS (c := c) (zs := fun x => sz (ty x)) I.1.1 I.2 hl1 hle hc ps0 (fun d hd k => E.1 ⟨d, hd, by rw [hls]; exact k⟩) ⟨S.2.2.2.2.1, S.2.2.2.2.2.1⟩ (fun a ha => by
        rw [← hls, hm] at ha
        rcases E.2 with z | z
        · omega
        · rw [ha] at z; exact z)
      have Cc := rq_enterC (l := l) (z := sz (ty c)) I.1.2.1 hc h1 (by rw [hed]; exact hl2) hl1 S.2.2.2.2.2.1
      rw [hed] at Cc
      obtain ⟨⟨a1, a2, a3, a4, a5, a6, a7, a8⟩, _⟩ := I
      refine ⟨ru_p ca e (ca e + 1), ru_p st c 2, ru_p fr c (sz (ty c)), ru_p sp c 0, ru_p en c N, ru_p ps c (2 * e + l + 1), ru_p la c l, ru_p cr c 0, ru_p tl 1 (tl 1 + 1), ⟨⟨a1, Cc, a3, a4, a5, by rw [ru_n (by omega)]; exact a6, a7, a8⟩, Sf⟩, fun post h => ?_, fun post kn fa gp fs th hW h => headY post kn fa gp fs th hW (fun kn fa hW' => ⟨fun z => by omega, fun l' hl' hl'' => ?_⟩)⟩
      · unfold wpX_letIn
        have J : (rq_L ln fm tt le li rk we op mk wd wn pc ph pa pe pt se ls mo tp ac sz dw st ty ed fr sp go tk en ch ps pg cf ct la gr cr ne nl oe ol fl tl tn N) := ⟨a1, a2, a3, a4, a5, a6, a7, a8⟩
        refine rx_se _ rfl J hc (by rw [hed]; exact hle) hs ?_
        have es : rn_c s = nI (2 * e + l) := by rw [hls]; rfl
        rw [es]
        have s63 : wX_letIn_63 post (nI c) (nI (2 * e + l)) (nI (sz (ty c))) (nI tn) (rn_A ln) (rn_A fm) (rn_A tt) (rn_A le) (rn_A li) (rn_A rk) (rn_A we) (rn_A op) (rn_A ca) (rn_A mk) (rn_B wd) (rn_B wn) (rn_A pc) (rn_A ph) (rn_A pa) (rn_A pe) (rn_A pt) (rn_A tp) (rn_A ac) (rn_A sz) (rn_A dw) (rn_A st) (rn_A ty) (rn_A ed) (rn_B ps) (rn_A fr) (rn_A sp) (rn_A go) (rn_A nz) (rn_B pg) (rn_B cf) (rn_B ct) (rn_A tk) (rn_A en) (rn_B ch) (rn_A nw) (rn_A tl) := by
          have ee : rn_A ed (nI c).toNatClampNeg = nI e := by rw [rn_rA (by omega), hed]
          unfold wX_letIn_63
          rw [ee]
          refine ⟨ic, nm_r (rn_uA (x := 2) (by omega)) ⟨ic, nm_r (rn_uB (x := 2 * e + l + 1) (by omega)) ⟨ic, nm_r (rn_uA (by omega)) ⟨ic, nm_r (rn_uA (x := 0) (by omega)) ⟨ic, nm_r (e' := rn_A (ru_p en c N)) ?_ ⟨ic, vp_in_nI he (by omega), vp_in_nI he (by omega), nm_r (e' := rn_A (ru_p ca e (ca e + 1))) ?_ (nm_r (rn_u3 1) h)⟩⟩⟩⟩⟩⟩
          · rw [show rn_A tl 0 = nI (tl 0) from rfl, a6]; exact rn_uA (by omega)
          · rw [rn_rA (by omega), nI_1]; exact rn_uA (by omega)
        refine br_f (nI_pos (n := 2 * e + l) (by omega) |> fun k w => k (by rw [w]; decide)) (rx_gt _ rfl (by omega) (rI_pg J) (rb_b (fun _ => rx_sz _ rfl hc hT (rx_nb _ rfl (p := 0) rfl (by omega) (by omega) (rI_ps J) (rI_fr J) ?_)) (fun k => absurd (by rw [← hls] at k; exact k) E.1)))
        rw [← hls, hm]
        refine ek_f (rn_c2 (by omega)) (fun _ => s63) (fun k => ⟨rn_ic (by omega) m1 (by omega), rx_sz _ (rn_cs (by omega)) (by omega) hT ?_⟩)
        have D := rI_c J (m - 1)
        have U := rI_y J (m - 1)
        have v : rn_A fr (rn_c m).toNatClampNeg - nI (sz (ty (m - 1))) - 1 = ri_z ((fr (m - 1) : Int) - sz (ty (m - 1)) - 1) := by rw [rn_Ac (by omega) (by omega), ri_n, ri_n, ri_sub, show (1 : Int32) = ri_z 1 from ri_n 1, ri_sub]
        exact ek_f (ri_l (ri_n _) v (by omega) (by omega)) (fun _ => s63) (fun k2 => by omega)
      · have := uniq l' hl''
        subst this
        have J : (rq_L ln fm tt le li rk we op mk wd wn pc ph pa pe pt se ls mo tp ac sz dw st ty ed fr sp go tk en ch ps pg cf ct la gr cr ne nl oe ol fl tl tn N) := ⟨a1, a2, a3, a4, a5, a6, a7, a8⟩
        have s98 : wY_enter_98 post (nI e) (nI c) (nI l') (nI kn) (nI tn) th (rn_T ln) (rn_A op) (rn_A fm) (rn_A tt) (rn_A le) (rn_A ln) (rn_A li) (rn_A rk) (rn_A we) (rn_A ca) (rn_A mk) (rn_A fa) (rn_A tp) (rn_A ac) (rn_A sz) (rn_A dw) (rn_A st) (rn_A ty) (rn_A ed) (rn_A la) (rn_A fr) (rn_A sp) (rn_A go) (rn_A nz) (rn_A tk) (rn_C ch) (rn_A en) (rn_A nw) (rn_A gr) (rn_A cr) (rn_A ne) (rn_A nl) (rn_A oe) (rn_A ol) (rn_A fl) (rn_A pc) (rn_A ph) (rn_A pa) (rn_A se) (rn_A ls) (rn_A mo) (rn_A tl) gp fs := by
          unfold wY_enter_98
          rw [rn_vf]
          refine ⟨ic, nm_r (rn_uA (x := 2) (by omega)) ⟨ic, nm_r (rn_uA (by omega)) (ry_sz _ rfl hc hT ⟨ic, nm_r (rn_uA (by omega)) ⟨ic, nm_r (rn_uA (x := 0) (by omega)) ⟨ic, nm_r (e' := rn_A (ru_p en c N)) ?_ ⟨ic, nm_r (rn_uA (x := 0) (by omega)) ⟨vp_in_nI he (by omega), vp_in_nI he (by omega), nm_r (e' := rn_A (ru_p ca e (ca e + 1))) ?_ (nm_r (rn_u3 1) (h kn fa hW'))⟩⟩⟩⟩⟩)⟩⟩
          · rw [show rn_A tl 0 = nI (tl 0) from rfl, a6]; exact rn_uA (by omega)
          · rw [rn_rA (by omega), nI_1]; exact rn_uA (by omega)
        unfold wY_enter_48
        refine ry_ab _ rfl rfl (p := 0) rfl (by omega) hl1 (by omega) (rI_on J) (rI_fr J) (ry_gt _ rfl rfl (by omega) hl1 (rI_gd J) (rb_b (fun _ => ?_) (fun k => absurd (by rw [← hls] at k; exact k) E.1)))
        rw [← hls, hm]
        refine ek_f (rn_yn (by omega)) (fun _ => s98) (fun k => ⟨rn_iy (by omega) m1 (by omega), ry_sz _ (rn_ys (by omega)) (by omega) hT (ry_sz _ rfl hc hT ?_)⟩)
        have D := rI_c J (m - 1)
        have U := rI_y J (m - 1)
        have v : rn_A fr (rn_y m).toNatClampNeg - nI (sz (ty (m - 1))) - 1 = ri_z ((fr (m - 1) : Int) - sz (ty (m - 1)) - 1) := by rw [rn_Ay (by omega) (by omega), ri_n, ri_n, ri_sub, show (1 : Int32) = ri_z 1 from ri_n 1, ri_sub]
        exact ek_f (ri_l (ri_n _) v (by omega) (by omega)) (fun _ => s98) (fun k2 => by omega)
    · have J := I.1
      have no : ∀ {Q : Prop}, (¬ ∃ d, d < 32 ∧ pg d = s) → ¬ m = 0 → sz (ty c) + sz (ty (m - 1)) + 1 ≤ fr (m - 1) → Q := fun a _ b => absurd ⟨a, Or.inr b⟩ E
      refine ⟨ca, st, fr, sp, en, ps, la, cr, tl, I, fun post h => ?_, fun post kn fa gp fs th hW h => headY post kn fa gp fs th hW (fun kn fa hW' => ⟨fun z => by omega, fun l' hl' hl'' => ?_⟩)⟩
      · unfold wpX_letIn
        refine rx_se _ rfl J hc (by rw [hed]; exact hle) hs ?_
        have es : rn_c s = nI (2 * e + l) := by rw [hls]; rfl
        rw [es]
        refine br_f (nI_pos (n := 2 * e + l) (by omega) |> fun k w => k (by rw [w]; decide)) (rx_gt _ rfl (by omega) (rI_pg J) (rb_b (fun k => rx_sz _ rfl hc hT (rx_nb _ rfl (p := 0) rfl (by omega) (by omega) (rI_ps J) (rI_fr J) ?_)) (fun _ => h)))
        rw [← hls] at k
        rw [← hls, hm]
        refine ek_f (rn_c2 (by omega)) (fun k2 => absurd ⟨k, Or.inl k2⟩ E) (fun k2 => ⟨rn_ic (by omega) m1 (by omega), rx_sz _ (rn_cs (by omega)) (by omega) hT ?_⟩)
        have D := rI_c J (m - 1)
        have U := rI_y J (m - 1)
        have v : rn_A fr (rn_c m).toNatClampNeg - nI (sz (ty (m - 1))) - 1 = ri_z ((fr (m - 1) : Int) - sz (ty (m - 1)) - 1) := by rw [rn_Ac (by omega) (by omega), ri_n, ri_n, ri_sub, show (1 : Int32) = ri_z 1 from ri_n 1, ri_sub]
        exact ek_f (ri_l (ri_n _) v (by omega) (by omega)) (fun k3 => no k k2 (by omega)) (fun _ => h)
      · have := uniq l' hl''
        subst this
        unfold wY_enter_48
        refine ry_ab _ rfl rfl (p := 0) rfl (by omega) hl1 (by omega) (rI_on J) (rI_fr J) (ry_gt _ rfl rfl (by omega) hl1 (rI_gd J) (rb_b (fun k => ?_) (fun _ => h kn fa hW')))
        rw [← hls] at k
        rw [← hls, hm]
        refine ek_f (rn_yn (by omega)) (fun k2 => absurd ⟨k, Or.inl k2⟩ E) (fun k2 => ⟨rn_iy (by omega) m1 (by omega), ry_sz _ (rn_ys (by omega)) (by omega) hT (ry_sz _ rfl hc hT ?_)⟩)
        have D := rI_c J (m - 1)
        have U := rI_y J (m - 1)
        have v : rn_A fr (rn_y m).toNatClampNeg - nI (sz (ty (m - 1))) - 1 = ri_z ((fr (m - 1) : Int) - sz (ty (m - 1)) - 1) := by rw [rn_Ay (by omega) (by omega), ri_n, ri_n, ri_sub, show (1 : Int32) = ri_z 1 from ri_n 1, ri_sub]
        exact ek_f (ri_l (ri_n _) v (by omega) (by omega)) (fun k3 => no k k2 (by omega)) (fun _ => h kn fa hW')
theorem rl_ena : ∀ d e, e + d = 16 → ∀ ca st fr sp en ps la cr tl : Nat → Nat, (rq_I ln fm tt le li rk we op mk wd wn pc ph pa pe pt se ls mo tp ac sz dw st ty ed fr sp go tk en ch ps pg cf ct la gr cr ne nl oe ol fl tl tn N) → ∃ ca' st' fr' sp' en' ps' la' cr' tl' : Nat → Nat, (rq_I ln fm tt le li rk we op mk wd wn pc ph pa pe pt se ls mo tp ac sz dw st' ty ed fr' sp' go tk en' ch ps' pg cf ct la' gr cr' ne nl oe ol fl tl' tn N) ∧
    (∀ post, post (nI tn, rn_A ln, rn_A fm, rn_A tt, rn_A le, rn_A li, rn_A rk, rn_A we, rn_A op, rn_A ca', rn_A mk, rn_B wd, rn_B wn, rn_A pc, rn_A ph, rn_A pa, rn_A pe, rn_A pt, rn_A tp, rn_A ac, rn_A sz, rn_A dw, rn_A st', rn_A ty, rn_A ed, rn_B ps', rn_A fr', rn_A sp', rn_A go, rn_A nz, rn_B pg, rn_B cf, rn_B ct, rn_A tk, rn_A en', rn_B ch, rn_A nw, rn_A tl') → wX_letCarsIn_2 post (d + 1) (nI e) (nI tn) (rn_A ln) (rn_A fm) (rn_A tt) (rn_A le) (rn_A li) (rn_A rk) (rn_A we) (rn_A op) (rn_A ca) (rn_A mk) (rn_B wd) (rn_B wn) (rn_A pc) (rn_A ph) (rn_A pa) (rn_A pe) (rn_A pt) (rn_A tp) (rn_A ac) (rn_A sz) (rn_A dw) (rn_A st) (rn_A ty) (rn_A ed) (rn_B ps) (rn_A fr) (rn_A sp) (rn_A go) (rn_A nz) (rn_B pg) (rn_B cf) (rn_B ct) (rn_A tk) (rn_A en) (rn_B ch) (rn_A nw) (rn_A tl)) ∧
    (∀ post kn fa gp fs th, (rq_WY ln fm tt le li we op mk fa kn) → (∀ kn fa, (rq_WY ln fm tt le li we op mk fa kn) → post (nI kn, nI tn, th, rn_T ln, rn_A op, rn_A fm, rn_A tt, rn_A le, rn_A ln, rn_A li, rn_A rk, rn_A we, rn_A ca', rn_A mk, rn_A fa, rn_A tp, rn_A ac, rn_A sz, rn_A dw, rn_A st', rn_A ty, rn_A ed, rn_A la', rn_A fr', rn_A sp', rn_A go, rn_A nz, rn_A tk, rn_C ch, rn_A en', rn_A nw, rn_A gr, rn_A cr', rn_A ne, rn_A nl, rn_A oe, rn_A ol, rn_A fl, rn_A pc, rn_A ph, rn_A pa, rn_A se, rn_A ls, rn_A mo, rn_A tl', gp, fs)) → wY_stepOn_155 post (d + 1) (nI e) (nI kn) (nI tn) th (rn_T ln) (rn_A op) (rn_A fm) (rn_A tt) (rn_A le) (rn_A ln) (rn_A li) (rn_A rk) (rn_A we) (rn_A ca) (rn_A mk) (rn_A fa) (rn_A tp) (rn_A ac) (rn_A sz) (rn_A dw) (rn_A st) (rn_A ty) (rn_A ed) (rn_A la) (rn_A fr) (rn_A sp) (rn_A go) (rn_A nz) (rn_A tk) (rn_C ch) (rn_A en) (rn_A nw) (rn_A gr) (rn_A cr) (rn_A ne) (rn_A nl) (rn_A oe) (rn_A ol) (rn_A fl) (rn_A pc) (rn_A ph) (rn_A pa) (rn_A se) (rn_A ls) (rn_A mo) (rn_A tl) gp fs) := by
  intro d
  induction d with
  | zero =>
    intro e he ca st fr sp en ps la cr tl I
    have e16 : e = 16 := by omega
    subst e16
    exact ⟨ca, st, fr, sp, en, ps, la, cr, tl, I, fun post h => br_t (by decide) h, fun post kn fa gp fs th hW h => br_t (by decide) (h kn fa hW)⟩
  | succ d ih =>
    intro e he ca st fr sp en ps la cr tl I
    have B := rI_e I.1 e
    have e6 : e < 16 := by omega
    rcases Nat.eq_zero_or_pos (op e) with q | q
    · obtain ⟨ca', st', fr', sp', en', ps', la', cr', tl', I', x, y⟩ := ih (e + 1) (by omega) ca st fr sp en ps la cr tl I
      refine ⟨ca', st', fr', sp', en', ps', la', cr', tl', I', fun post h => br_f (nI_ge (b := 16) e6 (by decide)) ⟨pk_in e 16 e6, ?_⟩, fun post kn fa gp fs th hW h => br_f (nI_ge (b := 16) e6 (by decide)) ⟨pk_in e 16 e6, br_c (fun _ => nm_r (nI_1 e) (y post kn fa gp fs th hW h)) (fun _ => ⟨pk_in e 16 e6, ?_⟩)⟩⟩
      · exact ek_f (rn_e (rn_rA (by omega)) (b := 0) rfl (by omega) (by omega)) (fun _ => nm_r (nI_1 e) (x post h)) (fun k => absurd q k)
      · exact ek_f (rn_e (rn_rA (by omega)) (b := 0) rfl (by omega) (by omega)) (fun _ => nm_r (nI_1 e) (y post kn fa gp fs th hW h)) (fun k => absurd q k)
    · have hle : 0 < ln e := by
        rcases Nat.eq_zero_or_pos (ln e) with z | z
        · have := I.1.1.2.2 e z; omega
        · exact z
      have L := rd_fwL (st := st) (ed := ed) (tk := tk) (e := e) 32
      rcases rd_fwS (st := st) (ed := ed) (tk := tk) (e := e) 32 with f | ⟨c, f1, c1, c2, c3⟩
      · obtain ⟨ca', st', fr', sp', en', ps', la', cr', tl', I', x, y⟩ := ih (e + 1) (by omega) ca st fr sp en ps la cr tl I
        refine ⟨ca', st', fr', sp', en', ps', la', cr', tl', I', fun post h => br_f (nI_ge (b := 16) e6 (by decide)) ⟨pk_in e 16 e6, ?_⟩, fun post kn fa gp fs th hW h => br_f (nI_ge (b := 16) e6 (by decide)) ⟨pk_in e 16 e6, ?_⟩⟩
        · refine ek_f (rn_e (rn_rA (by omega)) (b := 0) rfl (by omega) (by omega)) (fun k => by omega) (fun _ => rx_fw _ rfl e6 (rI_st I.1) (rI_ed I.1) (rI_tk I.1) ?_)
          rw [f]
          exact br_t rfl (nm_r (nI_1 e) (x post h))
        · refine ek_f (rn_TT (by omega)) (fun k => by omega) (fun _ => ⟨pk_in e 16 e6, ek_f (rn_e (rn_rA (by omega)) (b := 0) rfl (by omega) (by omega)) (fun k => by omega) (fun _ => ?_)⟩)
          unfold wpY_enter
          refine ry_fw _ rfl e6 (rI_st I.1) (rI_ed I.1) (rI_tk I.1) ?_
          rw [f]
          exact br_f (by decide) (nm_r (nI_1 e) (y post kn fa gp fs th hW h))
      · obtain ⟨ca1, st1, fr1, sp1, en1, ps1, la1, cr1, tl1, I1, x1, y1⟩ := rl_let (ca := ca) I e6 hle c1 c2 c3 f1
        obtain ⟨ca', st', fr', sp', en', ps', la', cr', tl', I', x, y⟩ := ih (e + 1) (by omega) ca1 st1 fr1 sp1 en1 ps1 la1 cr1 tl1 I1
        refine ⟨ca', st', fr', sp', en', ps', la', cr', tl', I', fun post h => br_f (nI_ge (b := 16) e6 (by decide)) ⟨pk_in e 16 e6, ?_⟩, fun post kn fa gp fs th hW h => br_f (nI_ge (b := 16) e6 (by decide)) ⟨pk_in e 16 e6, ?_⟩⟩
        · refine ek_f (rn_e (rn_rA (by omega)) (b := 0) rfl (by omega) (by omega)) (fun k => by omega) (fun _ => rx_fw _ rfl e6 (rI_st I.1) (rI_ed I.1) (rI_tk I.1) ?_)
          rw [f1]
          exact br_f (fun w => by have := (rn_c2 (n := c + 1) (by omega)).mp w; omega) (x1 _ (nm_r (nI_1 e) (x post h)))
        · refine ek_f (rn_TT (by omega)) (fun k => by omega) (fun _ => ⟨pk_in e 16 e6, ek_f (rn_e (rn_rA (by omega)) (b := 0) rfl (by omega) (by omega)) (fun k => by omega) (fun _ => ?_)⟩)
          exact y1 _ kn fa gp fs th hW (fun kn fa hW' => nm_r (nI_1 e) (y post kn fa gp fs th hW' h))
end
