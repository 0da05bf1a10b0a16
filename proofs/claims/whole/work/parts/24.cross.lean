/-! CROSSINGS, side by side -/
/-- ASKS and CAN -/
def rq_ab (ln fm tt le rk mk wn pc ph pe ty sz st ed fr sp go ps pg cf ct : Nat → Nat) (j c : Nat) : Prop :=
  (rq_ask ln fm tt le mk wn pc ph pe st ed fr go ps pg) j c ∧ (rq_cs le ed fr sp go ps (fun x => sz (ty x))) ((rq_as ln) ((rq_nx wn ed go) c) (ps c)) c ∧ (rq_mh fm tt rk le ed fr ps pg cf ct (fun x => sz (ty x))) ((rq_ask ln fm tt le mk wn pc ph pe st ed fr go ps pg) j) j ((rq_as ln) ((rq_nx wn ed go) c) (ps c)) c
theorem rn_vb : vp_nar .boolean 1 = 1 := rfl
section
variable {ln fm tt le li rk we op ca mk wd wn fa pc ph pa pe pt se ls mo tp ac sz dw st ty ed fr sp go nz tk en ch nw ps pg cf ct la gr cr ne nl oe ol fl tl : Nat → Nat} {tn kn N : Nat} {th : Int32} {gp fs : Nat → Int32}
theorem ry_1st (post : Int32 → SY → Prop) {j : Nat} (I : (rq_I ln fm tt le li rk we op mk wd wn pc ph pa pe pt se ls mo tp ac sz dw st ty ed fr sp go tk en ch ps pg cf ct la gr cr ne nl oe ol fl tl tn N)) (hj : j < 8) (H : ∀ kn fa gp fs th, (rq_WY ln fm tt le li we op mk fa kn) → post (rn_y (rq_1st ((rq_ab ln fm tt le rk mk wn pc ph pe ty sz st ed fr sp go ps pg cf ct) j) (rq_bf rk le ed fr ps) 32)) (nI kn, nI tn, th, rn_T ln, rn_A op, rn_A fm, rn_A tt, rn_A le, rn_A ln, rn_A li, rn_A rk, rn_A we, rn_A ca, rn_A mk, rn_A fa, rn_A tp, rn_A ac, rn_A sz, rn_A dw, rn_A st, rn_A ty, rn_A ed, rn_A la, rn_A fr, rn_A sp, rn_A go, rn_A nz, rn_A tk, rn_C ch, rn_A en, rn_A nw, rn_A gr, rn_A cr, rn_A ne, rn_A nl, rn_A oe, rn_A ol, rn_A fl, rn_A pc, rn_A ph, rn_A pa, rn_A se, rn_A ls, rn_A mo, rn_A tl, gp, fs)) : ∀ n i b kn fa gp fs th, i ≤ 32 → 32 - i < n → (rq_WY ln fm tt le li we op mk fa kn) → b = rq_1st ((rq_ab ln fm tt le rk mk wn pc ph pe ty sz st ed fr sp go ps pg cf ct) j) (rq_bf rk le ed fr ps) i → wY_firstAble_4 post (nI j) n (rn_y b) (nI i) (nI kn) (nI tn) th (rn_T ln) (rn_A op) (rn_A fm) (rn_A tt) (rn_A le) (rn_A ln) (rn_A li) (rn_A rk) (rn_A we) (rn_A ca) (rn_A mk) (rn_A fa) (rn_A tp) (rn_A ac) (rn_A sz) (rn_A dw) (rn_A st) (rn_A ty) (rn_A ed) (rn_A la) (rn_A fr) (rn_A sp) (rn_A go) (rn_A nz) (rn_A tk) (rn_C ch) (rn_A en) (rn_A nw) (rn_A gr) (rn_A cr) (rn_A ne) (rn_A nl) (rn_A oe) (rn_A ol) (rn_A fl) (rn_A pc) (rn_A ph) (rn_A pa) (rn_A se) (rn_A ls) (rn_A mo) (rn_A tl) gp fs := by
  intro n
  induction n with
  | zero => intro i b kn fa gp fs th h1 h2; omega
  | succ n ih =>
    intro i b kn fa gp fs th hi hin hW e
    have F := rq_1stS ((rq_ab ln fm tt le rk mk wn pc ph pe ty sz st ed fr sp go ps pg cf ct) j) (rq_bf rk le ed fr ps) i
    rw [← e] at F
    have b32 : b ≤ i := by rcases F with f | ⟨a, f1, f2, _⟩ <;> omega
    refine pk_le 32 i (fun z => ?_) (fun z => ry_as _ rfl rfl I.1 hW z hj (fun kn fa hW' => ?_))
    · have e32 : i = 32 := by omega
      subst e32
      rw [e]
      exact H kn fa gp fs th hW
    · refine rb_b (fun k1 => br_t rfl (nm_r (nI_1 i) (ih (i + 1) b kn fa gp fs th (by omega) (by omega) hW' (by rw [rq_1stN (fun v => k1 v.1.1)]; exact e)))) (fun k1 => ?_)
      refine ry_can _ rfl rfl I hW' z hj k1 (fun kn fa gp fs th hW'' => rb_b (fun k2 => br_t rfl (nm_r (nI_1 i) (ih (i + 1) b kn fa gp fs th (by omega) (by omega) hW'' (by rw [rq_1stN (fun v => k2 v.1.2)]; exact e)))) (fun k2 => br_f (by decide) ?_))
      refine ek_f (rn_yn (by omega)) (fun k3 => nm_r (nI_1 i) (ih (i + 1) (i + 1) kn fa gp fs th (by omega) (by omega) hW'' (by rw [rq_1stP ⟨⟨k1, k2⟩, Or.inl (by rw [← e]; exact k3)⟩]))) (fun k3 => ?_)
      have bst : st (b - 1) = 2 := by
        rcases F with f | ⟨a, f1, f2, f3⟩
        · omega
        · rw [f1]; exact f3.1.1
      refine ry_bf _ rfl (rn_ys (by omega)) I.1 z (by omega) k1.1 bst (rb_b (fun k4 => nm_r (nI_1 i) (ih (i + 1) b kn fa gp fs th (by omega) (by omega) hW'' ?_)) (fun k4 => nm_r (nI_1 i) (ih (i + 1) (i + 1) kn fa gp fs th (by omega) (by omega) hW'' ?_)))
      · rw [rq_1stN (fun v => by rw [← e] at v; exact v.2.elim k3 k4)]; exact e
      · rw [rq_1stP ⟨⟨k1, k2⟩, Or.inr (by rw [← e]; exact k4)⟩]
theorem ry_fa (post : Int32 → SY → Prop) {j : Nat} {x : Int32} (hx : x = nI j) (I : (rq_I ln fm tt le li rk we op mk wd wn pc ph pa pe pt se ls mo tp ac sz dw st ty ed fr sp go tk en ch ps pg cf ct la gr cr ne nl oe ol fl tl tn N)) (hW : (rq_WY ln fm tt le li we op mk fa kn)) (hj : j < 8) (H : ∀ kn fa gp fs th, (rq_WY ln fm tt le li we op mk fa kn) → post (rn_y (rq_1st ((rq_ab ln fm tt le rk mk wn pc ph pe ty sz st ed fr sp go ps pg cf ct) j) (rq_bf rk le ed fr ps) 32)) (nI kn, nI tn, th, rn_T ln, rn_A op, rn_A fm, rn_A tt, rn_A le, rn_A ln, rn_A li, rn_A rk, rn_A we, rn_A ca, rn_A mk, rn_A fa, rn_A tp, rn_A ac, rn_A sz, rn_A dw, rn_A st, rn_A ty, rn_A ed, rn_A la, rn_A fr, rn_A sp, rn_A go, rn_A nz, rn_A tk, rn_C ch, rn_A en, rn_A nw, rn_A gr, rn_A cr, rn_A ne, rn_A nl, rn_A oe, rn_A ol, rn_A fl, rn_A pc, rn_A ph, rn_A pa, rn_A se, rn_A ls, rn_A mo, rn_A tl, gp, fs)) : wpY_firstAble post (nI kn, nI tn, th, rn_T ln, rn_A op, rn_A fm, rn_A tt, rn_A le, rn_A ln, rn_A li, rn_A rk, rn_A we, rn_A ca, rn_A mk, rn_A fa, rn_A tp, rn_A ac, rn_A sz, rn_A dw, rn_A st, rn_A ty, rn_A ed, rn_A la, rn_A fr, rn_A sp, rn_A go, rn_A nz, rn_A tk, rn_C ch, rn_A en, rn_A nw, rn_A gr, rn_A cr, rn_A ne, rn_A nl, rn_A oe, rn_A ol, rn_A fl, rn_A pc, rn_A ph, rn_A pa, rn_A se, rn_A ls, rn_A mo, rn_A tl, gp, fs) x := by
  subst hx
  exact ⟨33, ry_1st post I hj H 33 0 0 kn fa gp fs th (by omega) (by omega) hW rfl⟩
theorem rx_fa (post : Int32 → Prop) {j : Nat} (I : (rq_I ln fm tt le li rk we op mk wd wn pc ph pa pe pt se ls mo tp ac sz dw st ty ed fr sp go tk en ch ps pg cf ct la gr cr ne nl oe ol fl tl tn N)) (hj : j < 8) (h : post (rn_c (rq_1st ((rq_ab ln fm tt le rk mk wn pc ph pe ty sz st ed fr sp go ps pg cf ct) j) (rq_bf rk le ed fr ps) 32))) : wpX_askersAt (fun r => wpX_firstThatCan post (nI tn, rn_A ln, rn_A fm, rn_A tt, rn_A le, rn_A li, rn_A rk, rn_A we, rn_A op, rn_A ca, rn_A mk, rn_B wd, rn_B wn, rn_A pc, rn_A ph, rn_A pa, rn_A pe, rn_A pt, rn_A tp, rn_A ac, rn_A sz, rn_A dw, rn_A st, rn_A ty, rn_A ed, rn_B ps, rn_A fr, rn_A sp, rn_A go, rn_A nz, rn_B pg, rn_B cf, rn_B ct, rn_A tk, rn_A en, rn_B ch, rn_A nw, rn_A tl) (nI j) r) (nI tn, rn_A ln, rn_A fm, rn_A tt, rn_A le, rn_A li, rn_A rk, rn_A we, rn_A op, rn_A ca, rn_A mk, rn_B wd, rn_B wn, rn_A pc, rn_A ph, rn_A pa, rn_A pe, rn_A pt, rn_A tp, rn_A ac, rn_A sz, rn_A dw, rn_A st, rn_A ty, rn_A ed, rn_B ps, rn_A fr, rn_A sp, rn_A go, rn_A nz, rn_B pg, rn_B cf, rn_B ct, rn_A tk, rn_A en, rn_B ch, rn_A nw, rn_A tl) (nI j) := by
  refine rx_ak _ rfl I.1 hj (fun y hy => rx_1st post rfl I hj (fun c hc w => ⟨((hy c hc).mp w).1, ((hy c hc).mp w).2.2.2.2.2.2.1⟩) ?_)
  have e : rq_1st (fun c => bt y c = true ∧ (rq_cs le ed fr sp go ps (fun x => sz (ty x))) ((rq_as ln) ((rq_nx wn ed go) c) (ps c)) c ∧ (rq_mh fm tt rk le ed fr ps pg cf ct (fun x => sz (ty x))) (fun d => bt y d = true) j ((rq_as ln) ((rq_nx wn ed go) c) (ps c)) c) (rq_bf rk le ed fr ps) 32 = rq_1st ((rq_ab ln fm tt le rk mk wn pc ph pe ty sz st ed fr sp go ps pg cf ct) j) (rq_bf rk le ed fr ps) 32 := by
    refine rq_1stE (fun c hc => ?_)
    have m : (rq_mh fm tt rk le ed fr ps pg cf ct (fun x => sz (ty x))) (fun d => bt y d = true) j ((rq_as ln) ((rq_nx wn ed go) c) (ps c)) c ↔ (rq_mh fm tt rk le ed fr ps pg cf ct (fun x => sz (ty x))) ((rq_ask ln fm tt le mk wn pc ph pe st ed fr go ps pg) j) j ((rq_as ln) ((rq_nx wn ed go) c) (ps c)) c :=
      ⟨fun w => ⟨w.1, fun v b hb k => w.2 v b hb ((hy b hb).mpr k)⟩, fun w => ⟨w.1, fun v b hb k => w.2 v b hb ((hy b hb).mp k)⟩⟩
    show (bt y c = true ∧ (rq_cs le ed fr sp go ps (fun x => sz (ty x))) ((rq_as ln) ((rq_nx wn ed go) c) (ps c)) c ∧ (rq_mh fm tt rk le ed fr ps pg cf ct (fun x => sz (ty x))) (fun d => bt y d = true) j ((rq_as ln) ((rq_nx wn ed go) c) (ps c)) c) ↔ ((rq_ask ln fm tt le mk wn pc ph pe st ed fr go ps pg) j c ∧ (rq_cs le ed fr sp go ps (fun x => sz (ty x))) ((rq_as ln) ((rq_nx wn ed go) c) (ps c)) c ∧ (rq_mh fm tt rk le ed fr ps pg cf ct (fun x => sz (ty x))) ((rq_ask ln fm tt le mk wn pc ph pe st ed fr go ps pg) j) j ((rq_as ln) ((rq_nx wn ed go) c) (ps c)) c)
    rw [hy c hc, m]
  rw [e]
  exact h
def rl_ug (pg : Nat → Nat) : Nat → Bool := fun c => decide (pg c = 0)
theorem rl_gI {j c : Nat} (I : (rq_I ln fm tt le li rk we op mk wd wn pc ph pa pe pt se ls mo tp ac sz dw st ty ed fr sp go tk en ch ps pg cf ct la gr cr ne nl oe ol fl tl tn N)) (hc : c < 32) (hA : (rq_ab ln fm tt le rk mk wn pc ph pe ty sz st ed fr sp go ps pg cf ct) j c) : (rq_I ln fm tt le li rk we op mk wd wn pc ph pa pe pt se ls mo tp ac sz dw st ty ed fr sp go tk en ch ps (ru_p pg c ((rq_as ln) ((rq_nx wn ed go) c) (ps c))) cf ct la (ru_p gr c 1) cr (ru_p ne c ((rq_nx wn ed go) c - 1)) (ru_p nl c (if ln ((rq_nx wn ed go) c - 1) = 1 then 0 else la c)) oe ol fl (ru_p tl 4 (tl 4 + 1)) tn N) := by
  obtain ⟨⟨a1, a2, a3, a4, a5, a6, a7, a8⟩, s⟩ := I
  obtain ⟨x1, x2⟩ := rI_nx ⟨a1, a2, a3, a4, a5, a6, a7, a8⟩ c
  have n0 := hA.1.2.2.2.2.2.2.1
  exact ⟨⟨a1, rq_grantC a1 a2 hc hA.1.1 n0 x1 (rq_Kf (x2 n0).2).1, a3, a4, a5, by rw [ru_n (by omega)]; exact a6, a7, a8⟩, rq_grantS a1 a2 s hc hA.1 rfl hA.2.1 hA.2.2⟩
theorem rl_cr {j : Nat} (hj : j < 8) : ∀ k (pg gr ne nl tl : Nat → Nat) (r : Nat), (rq_I ln fm tt le li rk we op mk wd wn pc ph pa pe pt se ls mo tp ac sz dw st ty ed fr sp go tk en ch ps pg cf ct la gr cr ne nl oe ol fl tl tn N) → rd_bc (rl_ug pg) 32 = k → r + k ≤ 32 →
    ∃ pg' gr' ne' nl' tl' : Nat → Nat, (rq_I ln fm tt le li rk we op mk wd wn pc ph pa pe pt se ls mo tp ac sz dw st ty ed fr sp go tk en ch ps pg' cf ct la gr' cr ne' nl' oe ol fl tl' tn N) ∧
    (∀ post (J : Int32 → (Nat → Int32) → (Nat → Int32) → (Nat → Int32) → (Nat → Int32) → (Nat → Int32) → (Nat → Int32) → (Nat → Int32) → (Nat → Int32) → (Nat → Int32) → (Nat → Int32) → (Nat → Int32) → (Nat → Int32) → (Nat → Int32) → (Nat → Int32) → (Nat → Int32) → (Nat → Int32) → (Nat → Int32) → (Nat → Int32) → (Nat → Int32) → (Nat → Int32) → (Nat → Int32) → (Nat → Int32) → (Nat → Int32) → (Nat → Int32) → (Nat → Int32) → (Nat → Int32) → (Nat → Int32) → (Nat → Int32) → (Nat → Int32) → (Nat → Int32) → (Nat → Int32) → (Nat → Int32) → (Nat → Int32) → (Nat → Int32) → (Nat → Int32) → (Nat → Int32) → (Nat → Int32) → Prop) m, J (nI (j + 1)) (rn_A ln) (rn_A fm) (rn_A tt) (rn_A le) (rn_A li) (rn_A rk) (rn_A we) (rn_A op) (rn_A ca) (rn_A mk) (rn_B wd) (rn_B wn) (rn_A pc) (rn_A ph) (rn_A pa) (rn_A pe) (rn_A pt) (rn_A tp) (rn_A ac) (rn_A sz) (rn_A dw) (rn_A st) (rn_A ty) (rn_A ed) (rn_B ps) (rn_A fr) (rn_A sp) (rn_A go) (rn_A nz) (rn_B pg') (rn_B cf) (rn_B ct) (rn_A tk) (rn_A en) (rn_B ch) (rn_A nw) (rn_A tl') → 33 - r < m → wX_grantCrossings_10 post J (nI j) (nI tn) m (nI r) (rn_A ln) (rn_A fm) (rn_A tt) (rn_A le) (rn_A li) (rn_A rk) (rn_A we) (rn_A op) (rn_A ca) (rn_A mk) (rn_B wd) (rn_B wn) (rn_A pc) (rn_A ph) (rn_A pa) (rn_A pe) (rn_A pt) (rn_A tp) (rn_A ac) (rn_A sz) (rn_A dw) (rn_A st) (rn_A ty) (rn_A ed) (rn_B ps) (rn_A fr) (rn_A sp) (rn_A go) (rn_A nz) (rn_B pg) (rn_B cf) (rn_B ct) (rn_A tk) (rn_A en) (rn_B ch) (rn_A nw) (rn_A tl)) ∧
    (∀ post m kn fa gp fs th, k < m → (rq_WY ln fm tt le li we op mk fa kn) → (∀ kn fa gp fs th, (rq_WY ln fm tt le li we op mk fa kn) → post (nI kn, nI tn, th, rn_T ln, rn_A op, rn_A fm, rn_A tt, rn_A le, rn_A ln, rn_A li, rn_A rk, rn_A we, rn_A ca, rn_A mk, rn_A fa, rn_A tp, rn_A ac, rn_A sz, rn_A dw, rn_A st, rn_A ty, rn_A ed, rn_A la, rn_A fr, rn_A sp, rn_A go, rn_A nz, rn_A tk, rn_C ch, rn_A en, rn_A nw, rn_A gr', rn_A cr, rn_A ne', rn_A nl', rn_A oe, rn_A ol, rn_A fl, rn_A pc, rn_A ph, rn_A pa, rn_A se, rn_A ls, rn_A mo, rn_A tl', gp, fs)) → wY_cross_6 post (nI j) m (rn_y (rq_1st ((rq_ab ln fm tt le rk mk wn pc ph pe ty sz st ed fr sp go ps pg cf ct) j) (rq_bf rk le ed fr ps) 32)) (nI kn) (nI tn) th (rn_T ln) (rn_A op) (rn_A fm) (rn_A tt) (rn_A le) (rn_A ln) (rn_A li) (rn_A rk) (rn_A we) (rn_A ca) (rn_A mk) (rn_A fa) (rn_A tp) (rn_A ac) (rn_A sz) (rn_A dw) (rn_A st) (rn_A ty) (rn_A ed) (rn_A la) (rn_A fr) (rn_A sp) (rn_A go) (rn_A nz) (rn_A tk) (rn_C ch) (rn_A en) (rn_A nw) (rn_A gr) (rn_A cr) (rn_A ne) (rn_A nl) (rn_A oe) (rn_A ol) (rn_A fl) (rn_A pc) (rn_A ph) (rn_A pa) (rn_A se) (rn_A ls) (rn_A mo) (rn_A tl) gp fs) := by
  intro k
  induction k with
  | zero =>
    intro pg gr ne nl tl r I hk hr
    have f0 : rq_1st ((rq_ab ln fm tt le rk mk wn pc ph pe ty sz st ed fr sp go ps pg cf ct) j) (rq_bf rk le ed fr ps) 32 = 0 := by
      rcases rq_1stS ((rq_ab ln fm tt le rk mk wn pc ph pe ty sz st ed fr sp go ps pg cf ct) j) (rq_bf rk le ed fr ps) 32 with f | ⟨a, f1, f2, f3⟩
      · exact f
      · exfalso
        have g0 : pg a = 0 := f3.1.2.2.1
        have := rd_bcD (p := rl_ug pg) (q := fun c => decide (pg c = 0) && decide (c ≠ a)) (c := a) (by unfold rl_ug; exact decide_eq_true g0) (by simp) f2 (fun b hb hba => by unfold rl_ug; simp [hba])
        omega
    refine ⟨pg, gr, ne, nl, tl, I, fun post J m h hm => ?_, fun post m kn fa gp fs th hm hW h => ?_⟩
    · obtain ⟨m', rfl⟩ : ∃ m', m = m' + 1 := ⟨m - 1, by omega⟩
      refine br_f (nI_nlt (a := 32) (b := r) (by omega) (by decide)) (rx_fa _ I hj ?_)
      rw [f0]
      exact br_t rfl (nm_r (nI_1 j) h)
    · obtain ⟨m', rfl⟩ : ∃ m', m = m' + 1 := ⟨m - 1, by omega⟩
      rw [f0]
      exact br_t (by decide) (h kn fa gp fs th hW)
  | succ k ih =>
    intro pg gr ne nl tl r I hk hr
    rcases rq_1stS ((rq_ab ln fm tt le rk mk wn pc ph pe ty sz st ed fr sp go ps pg cf ct) j) (rq_bf rk le ed fr ps) 32 with f | ⟨c, f1, c1, hA⟩
    · refine ⟨pg, gr, ne, nl, tl, I, fun post J m h hm => ?_, fun post m kn fa gp fs th hm hW h => ?_⟩
      · obtain ⟨m', rfl⟩ : ∃ m', m = m' + 1 := ⟨m - 1, by omega⟩
        refine br_f (nI_nlt (a := 32) (b := r) (by omega) (by decide)) (rx_fa _ I hj ?_)
        rw [f]
        exact br_t rfl (nm_r (nI_1 j) h)
      · obtain ⟨m', rfl⟩ : ∃ m', m = m' + 1 := ⟨m - 1, by omega⟩
        rw [f]
        exact br_t (by decide) (h kn fa gp fs th hW)
    · have I1 := rl_gI I c1 hA
      have s2 := hA.1.1
      have g0 : pg c = 0 := hA.1.2.2.1
      have n0 := hA.1.2.2.2.2.2.2.1
      obtain ⟨x1, x2⟩ := rI_nx I.1 c
      obtain ⟨u1, u2, u3⟩ := rI_as I.1 c1 s2
      obtain ⟨t1, t2, t3, t4, t5, t6⟩ := u2 n0
      have A := rI_c I.1 c
      have C := rI_e I.1 ((rq_nx wn ed go) c - 1)
      have cnt : rd_bc (rl_ug (ru_p pg c ((rq_as ln) ((rq_nx wn ed go) c) (ps c)))) 32 + 1 = rd_bc (rl_ug pg) 32 := by
        refine rd_bcD (c := c) ?_ ?_ c1 (fun a ha hac => ?_)
        · unfold rl_ug; exact decide_eq_true g0
        · unfold rl_ug; rw [ru_s]; exact decide_eq_false (by omega)
        · unfold rl_ug; rw [ru_n hac]
      obtain ⟨pg', gr', ne', nl', tl', I', xx, yy⟩ := ih _ _ _ _ _ (r + 1) I1 (by omega) (by omega)
      refine ⟨pg', gr', ne', nl', tl', I', fun post J m h hm => ?_, fun post m kn fa gp fs th hm hW h => ?_⟩
      · obtain ⟨m', rfl⟩ : ∃ m', m = m' + 1 := ⟨m - 1, by omega⟩
        refine br_f (nI_nlt (a := 32) (b := r) (by omega) (by decide)) (rx_fa _ I hj ?_)
        rw [f1]
        refine br_f (fun w => ?_) (rx_sa _ rfl I.1 c1 s2 ⟨pk_in c 32 c1, nm_r (e' := rn_B (ru_p pg c ((rq_as ln) ((rq_nx wn ed go) c) (ps c)))) ?_ (nm_r (rn_u3 4) (nm_r (nI_1 r) (xx post J m' h (by omega))))⟩)
        · have := (rn_c2 (n := c + 1) (by omega)).mp w; omega
        · show upd (rn_B pg) (nI c).toNatClampNeg (rn_c ((rq_as ln) ((rq_nx wn ed go) c) (ps c))) = _
          exact rn_uB (by omega)
      · obtain ⟨m', rfl⟩ : ∃ m', m = m' + 1 := ⟨m - 1, by omega⟩
        rw [f1]
        refine br_f (nI_pos (n := c) (by omega)) (ry_nxo _ rfl I.1 hW c1 (fun kn fa hW' => ⟨pk_in c 32 c1, nm_r (e' := rn_A (ru_p gr c 1)) ?_ ⟨pk_in c 32 c1, nm_r (e' := rn_A (ru_p ne c ((rq_nx wn ed go) c - 1))) ?_ ⟨rn_ic n0 x1 (by omega), ?_⟩⟩⟩))
        · show upd (rn_A gr) (nI c).toNatClampNeg (vp_nar .boolean 1) = _
          rw [rn_vb]
          exact rn_uA (x := 1) (by omega)
        · show upd (rn_A ne) (nI c).toNatClampNeg (rn_c ((rq_nx wn ed go) c)) = _
          rw [rn_cs n0]
          exact rn_uA (by omega)
        · have s55 : ∀ l, l = (if ln ((rq_nx wn ed go) c - 1) = 1 then 0 else la c) → wY_cross_55 post (wY_cross_6 post (nI j) m') (nI j) (nI l) (nI c) (nI kn) (nI tn) th (rn_T ln) (rn_A op) (rn_A fm) (rn_A tt) (rn_A le) (rn_A ln) (rn_A li) (rn_A rk) (rn_A we) (rn_A ca) (rn_A mk) (rn_A fa) (rn_A tp) (rn_A ac) (rn_A sz) (rn_A dw) (rn_A st) (rn_A ty) (rn_A ed) (rn_A la) (rn_A fr) (rn_A sp) (rn_A go) (rn_A nz) (rn_A tk) (rn_C ch) (rn_A en) (rn_A nw) (rn_A (ru_p gr c 1)) (rn_A cr) (rn_A (ru_p ne c ((rq_nx wn ed go) c - 1))) (rn_A nl) (rn_A oe) (rn_A ol) (rn_A fl) (rn_A pc) (rn_A ph) (rn_A pa) (rn_A se) (rn_A ls) (rn_A mo) (rn_A tl) gp fs := by
            intro l hl
            rw [← hl] at I1 yy
            refine ⟨pk_in c 32 c1, nm_r (rn_uA (by omega)) (nm_r (rn_u3 4) (ry_fa _ rfl I1 hW' hj (fun kn fa gp fs th hW'' => yy post m' kn fa gp fs th (by omega) hW'' h)))⟩
          refine ek_f (rn_e (rn_Ac n0 (by omega)) (b := 1) rfl (by omega) (by omega)) (fun k8 => s55 0 (by rw [if_pos k8])) (fun k8 => ⟨pk_in c 32 c1, ?_⟩)
          have r1 : rn_A la (rn_y (c + 1)).toNatClampNeg = nI (la c) := rn_rA (by omega)
          rw [r1]
          exact s55 (la c) (by rw [if_neg k8])
theorem rl_crj {j : Nat} (hj : j < 8) (I : (rq_I ln fm tt le li rk we op mk wd wn pc ph pa pe pt se ls mo tp ac sz dw st ty ed fr sp go tk en ch ps pg cf ct la gr cr ne nl oe ol fl tl tn N)) : ∃ pg' gr' ne' nl' tl' : Nat → Nat, (rq_I ln fm tt le li rk we op mk wd wn pc ph pa pe pt se ls mo tp ac sz dw st ty ed fr sp go tk en ch ps pg' cf ct la gr' cr ne' nl' oe ol fl tl' tn N) ∧
    (∀ post (J : Int32 → (Nat → Int32) → (Nat → Int32) → (Nat → Int32) → (Nat → Int32) → (Nat → Int32) → (Nat → Int32) → (Nat → Int32) → (Nat → Int32) → (Nat → Int32) → (Nat → Int32) → (Nat → Int32) → (Nat → Int32) → (Nat → Int32) → (Nat → Int32) → (Nat → Int32) → (Nat → Int32) → (Nat → Int32) → (Nat → Int32) → (Nat → Int32) → (Nat → Int32) → (Nat → Int32) → (Nat → Int32) → (Nat → Int32) → (Nat → Int32) → (Nat → Int32) → (Nat → Int32) → (Nat → Int32) → (Nat → Int32) → (Nat → Int32) → (Nat → Int32) → (Nat → Int32) → (Nat → Int32) → (Nat → Int32) → (Nat → Int32) → (Nat → Int32) → (Nat → Int32) → (Nat → Int32) → Prop), J (nI (j + 1)) (rn_A ln) (rn_A fm) (rn_A tt) (rn_A le) (rn_A li) (rn_A rk) (rn_A we) (rn_A op) (rn_A ca) (rn_A mk) (rn_B wd) (rn_B wn) (rn_A pc) (rn_A ph) (rn_A pa) (rn_A pe) (rn_A pt) (rn_A tp) (rn_A ac) (rn_A sz) (rn_A dw) (rn_A st) (rn_A ty) (rn_A ed) (rn_B ps) (rn_A fr) (rn_A sp) (rn_A go) (rn_A nz) (rn_B pg') (rn_B cf) (rn_B ct) (rn_A tk) (rn_A en) (rn_B ch) (rn_A nw) (rn_A tl') → ∃ m, wX_grantCrossings_10 post J (nI j) (nI tn) m 0 (rn_A ln) (rn_A fm) (rn_A tt) (rn_A le) (rn_A li) (rn_A rk) (rn_A we) (rn_A op) (rn_A ca) (rn_A mk) (rn_B wd) (rn_B wn) (rn_A pc) (rn_A ph) (rn_A pa) (rn_A pe) (rn_A pt) (rn_A tp) (rn_A ac) (rn_A sz) (rn_A dw) (rn_A st) (rn_A ty) (rn_A ed) (rn_B ps) (rn_A fr) (rn_A sp) (rn_A go) (rn_A nz) (rn_B pg) (rn_B cf) (rn_B ct) (rn_A tk) (rn_A en) (rn_B ch) (rn_A nw) (rn_A tl)) ∧
    (∀ post kn fa gp fs th, (rq_WY ln fm tt le li we op mk fa kn) → (∀ kn fa gp fs th, (rq_WY ln fm tt le li we op mk fa kn) → post (nI kn, nI tn, th, rn_T ln, rn_A op, rn_A fm, rn_A tt, rn_A le, rn_A ln, rn_A li, rn_A rk, rn_A we, rn_A ca, rn_A mk, rn_A fa, rn_A tp, rn_A ac, rn_A sz, rn_A dw, rn_A st, rn_A ty, rn_A ed, rn_A la, rn_A fr, rn_A sp, rn_A go, rn_A nz, rn_A tk, rn_C ch, rn_A en, rn_A nw, rn_A gr', rn_A cr, rn_A ne', rn_A nl', rn_A oe, rn_A ol, rn_A fl, rn_A pc, rn_A ph, rn_A pa, rn_A se, rn_A ls, rn_A mo, rn_A tl', gp, fs)) → wpY_cross post (nI kn, nI tn, th, rn_T ln, rn_A op, rn_A fm, rn_A tt, rn_A le, rn_A ln, rn_A li, rn_A rk, rn_A we, rn_A ca, rn_A mk, rn_A fa, rn_A tp, rn_A ac, rn_A sz, rn_A dw, rn_A st, rn_A ty, rn_A ed, rn_A la, rn_A fr, rn_A sp, rn_A go, rn_A nz, rn_A tk, rn_C ch, rn_A en, rn_A nw, rn_A gr, rn_A cr, rn_A ne, rn_A nl, rn_A oe, rn_A ol, rn_A fl, rn_A pc, rn_A ph, rn_A pa, rn_A se, rn_A ls, rn_A mo, rn_A tl, gp, fs) (nI j)) := by
  obtain ⟨pg', gr', ne', nl', tl', I', x, y⟩ := rl_cr hj _ pg gr ne nl tl 0 I rfl (by have := rd_bcL (rl_ug pg) 32; omega)
  refine ⟨pg', gr', ne', nl', tl', I', fun post J h => ⟨34, x post J 34 h (by omega)⟩, fun post kn fa gp fs th hW h => ?_⟩
  unfold wpY_cross
  exact ry_fa _ rfl I hW hj (fun kn fa gp fs th hW' => ⟨_, y post _ kn fa gp fs th (Nat.lt_succ_self _) hW' h⟩)
theorem rl_cra : ∀ d j, j + d = 8 → ∀ pg gr ne nl tl : Nat → Nat, (rq_I ln fm tt le li rk we op mk wd wn pc ph pa pe pt se ls mo tp ac sz dw st ty ed fr sp go tk en ch ps pg cf ct la gr cr ne nl oe ol fl tl tn N) → ∃ pg' gr' ne' nl' tl' : Nat → Nat, (rq_I ln fm tt le li rk we op mk wd wn pc ph pa pe pt se ls mo tp ac sz dw st ty ed fr sp go tk en ch ps pg' cf ct la gr' cr ne' nl' oe ol fl tl' tn N) ∧
    (∀ post, post (nI tn, rn_A ln, rn_A fm, rn_A tt, rn_A le, rn_A li, rn_A rk, rn_A we, rn_A op, rn_A ca, rn_A mk, rn_B wd, rn_B wn, rn_A pc, rn_A ph, rn_A pa, rn_A pe, rn_A pt, rn_A tp, rn_A ac, rn_A sz, rn_A dw, rn_A st, rn_A ty, rn_A ed, rn_B ps, rn_A fr, rn_A sp, rn_A go, rn_A nz, rn_B pg', rn_B cf, rn_B ct, rn_A tk, rn_A en, rn_B ch, rn_A nw, rn_A tl') → wX_grantCrossings_2 post (nI tn) (d + 1) (nI j) (rn_A ln) (rn_A fm) (rn_A tt) (rn_A le) (rn_A li) (rn_A rk) (rn_A we) (rn_A op) (rn_A ca) (rn_A mk) (rn_B wd) (rn_B wn) (rn_A pc) (rn_A ph) (rn_A pa) (rn_A pe) (rn_A pt) (rn_A tp) (rn_A ac) (rn_A sz) (rn_A dw) (rn_A st) (rn_A ty) (rn_A ed) (rn_B ps) (rn_A fr) (rn_A sp) (rn_A go) (rn_A nz) (rn_B pg) (rn_B cf) (rn_B ct) (rn_A tk) (rn_A en) (rn_B ch) (rn_A nw) (rn_A tl)) ∧
    (∀ post kn fa gp fs th, (rq_WY ln fm tt le li we op mk fa kn) → (∀ kn fa gp fs th, (rq_WY ln fm tt le li we op mk fa kn) → ∃ n97, wY_stepOn_97 post n97 0 (nI kn) (nI tn) th (rn_T ln) (rn_A op) (rn_A fm) (rn_A tt) (rn_A le) (rn_A ln) (rn_A li) (rn_A rk) (rn_A we) (rn_A ca) (rn_A mk) (rn_A fa) (rn_A tp) (rn_A ac) (rn_A sz) (rn_A dw) (rn_A st) (rn_A ty) (rn_A ed) (rn_A la) (rn_A fr) (rn_A sp) (rn_A go) (rn_A nz) (rn_A tk) (rn_C ch) (rn_A en) (rn_A nw) (rn_A gr') (rn_A cr) (rn_A ne') (rn_A nl') (rn_A oe) (rn_A ol) (rn_A fl) (rn_A pc) (rn_A ph) (rn_A pa) (rn_A se) (rn_A ls) (rn_A mo) (rn_A tl') gp fs) → wY_stepOn_78 post (d + 1) (nI j) (nI kn) (nI tn) th (rn_T ln) (rn_A op) (rn_A fm) (rn_A tt) (rn_A le) (rn_A ln) (rn_A li) (rn_A rk) (rn_A we) (rn_A ca) (rn_A mk) (rn_A fa) (rn_A tp) (rn_A ac) (rn_A sz) (rn_A dw) (rn_A st) (rn_A ty) (rn_A ed) (rn_A la) (rn_A fr) (rn_A sp) (rn_A go) (rn_A nz) (rn_A tk) (rn_C ch) (rn_A en) (rn_A nw) (rn_A gr) (rn_A cr) (rn_A ne) (rn_A nl) (rn_A oe) (rn_A ol) (rn_A fl) (rn_A pc) (rn_A ph) (rn_A pa) (rn_A se) (rn_A ls) (rn_A mo) (rn_A tl) gp fs) := by
  intro d
  induction d with
  | zero =>
    intro j hj pg gr ne nl tl I
    have e8 : j = 8 := by omega
    subst e8
    exact ⟨pg, gr, ne, nl, tl, I, fun post h => br_t (by decide) h, fun post kn fa gp fs th hW h => br_t (by decide) (h kn fa gp fs th hW)⟩
  | succ d ih =>
    intro j hj pg gr ne nl tl I
    have j8 : j < 8 := by omega
    obtain ⟨pg1, gr1, ne1, nl1, tl1, I1, x1, y1⟩ := rl_crj j8 I
    obtain ⟨pg', gr', ne', nl', tl', I', x, y⟩ := ih (j + 1) (by omega) pg1 gr1 ne1 nl1 tl1 I1
    exact ⟨pg', gr', ne', nl', tl', I', fun post h => br_f (nI_ge (b := 8) j8 (by decide)) (x1 post _ (x post h)), fun post kn fa gp fs th hW h => br_f (nI_ge (b := 8) j8 (by decide)) (y1 _ kn fa gp fs th hW (fun kn fa gp fs th hW' => nm_r (nI_1 j) (y post kn fa gp fs th hW' h)))⟩
end
