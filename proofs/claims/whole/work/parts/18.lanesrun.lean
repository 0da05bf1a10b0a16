/-! LANES: X's foremost ones and Y's positions, side by side -/
theorem rn_u3 {f : Nat → Nat} (k : Nat) : upd (rn_A f) k (rn_A f k + 1) = rn_A (ru_p f k (f k + 1)) := by
  funext j
  unfold upd rn_A ru_p
  by_cases z : j = k
  · rw [if_pos z, if_pos z]; exact nI_1 _
  · rw [if_neg z, if_neg z]
theorem rq_ot0 {p : Nat} (h : 0 < p) : 0 < rq_ot p := by
  unfold rq_ot
  split <;> omega
theorem rn_xc {p : Nat} (h : 0 < p) (h2 : p ≤ 32) : rn_c p ^^^ 1 = rn_c (rq_ot p) := by
  obtain ⟨s, rfl⟩ : ∃ s, p = s + 1 := ⟨p - 1, by omega⟩
  rw [rn_cs (rq_ot0 h)]
  exact rn_x1 s (by omega)
/-- ON e and not done -/
def rl_un (st ed : Nat → Nat) (e : Nat) (x : Int32) : Nat → Bool := fun c => decide (st c = 2 ∧ ed c = e) && !(bt x c)
section
variable {ln fm tt le li rk we op ca mk wd wn fa pc ph pa pe pt se ls mo tp ac sz dw st ty ed fr sp go nz tk en ch nw ps pg cf ct la gr cr ne nl oe ol fl tl : Nat → Nat} {tn kn N : Nat} {th : Int32} {gp fs : Nat → Int32}
theorem rl_L {c : Nat} (I : (rq_L ln fm tt le li rk we op mk wd wn pc ph pa pe pt se ls mo tp ac sz dw st ty ed fr sp go tk en ch ps pg cf ct la gr cr ne nl oe ol fl tl tn N)) (hc : c < 32) (h2 : st c = 2) (hl : ln (ed c) = 2) : (rq_L ln fm tt le li rk we op mk wd wn pc ph pa pe pt se ls mo tp ac sz dw st ty ed fr sp go tk en (ru_p ch c (N + 1)) (ru_p ps c (rq_ot (ps c))) pg cf ct (ru_p la c (1 - la c)) gr cr ne nl oe ol fl (ru_p tl 3 (tl 3 + 1)) tn N) := by
  obtain ⟨a1, a2, a3, a4, a5, a6, a7, a8⟩ := I
  exact ⟨a1, rq_changeC a2 hc h2 hl, a3, a4, a5, by rw [ru_n (by omega)]; exact a6, a7, a8⟩
theorem rl_I {c : Nat} (I : (rq_I ln fm tt le li rk we op mk wd wn pc ph pa pe pt se ls mo tp ac sz dw st ty ed fr sp go tk en ch ps pg cf ct la gr cr ne nl oe ol fl tl tn N)) (hc : c < 32) (h2 : st c = 2) (hl : ln (ed c) = 2) (hm : pg c = 0) (hr : (rq_room fr sp ps pg (fun x => sz (ty x))) (rq_ot (ps c)) c) : (rq_I ln fm tt le li rk we op mk wd wn pc ph pa pe pt se ls mo tp ac sz dw st ty ed fr sp go tk en (ru_p ch c (N + 1)) (ru_p ps c (rq_ot (ps c))) pg cf ct (ru_p la c (1 - la c)) gr cr ne nl oe ol fl (ru_p tl 3 (tl 3 + 1)) tn N) :=
  ⟨rl_L I.1 hc h2 hl, rq_changeS I.1.2.1 I.2 hc h2 hm hr⟩
/-- the one at this place -/
theorem rl_at (I : (rq_I ln fm tt le li rk we op mk wd wn pc ph pa pe pt se ls mo tp ac sz dw st ty ed fr sp go tk en ch ps pg cf ct la gr cr ne nl oe ol fl tl tn N)) (e l f : Nat) (hl : l ≤ 1) : ∃ k, (k = 0 ∧ ∀ c, c < 32 → ps c = 2 * e + l + 1 → fr c ≠ f) ∨ (∃ c, k = c + 1 ∧ c < 32 ∧ ps c = 2 * e + l + 1 ∧ fr c = f ∧ ∀ d, d < 32 → ps d = 2 * e + l + 1 → fr d = f → d = c) := by
  rcases Classical.em (∃ c, c < 32 ∧ ps c = 2 * e + l + 1 ∧ fr c = f) with ⟨c, c1, c2, c3⟩ | h
  · refine ⟨c + 1, Or.inr ⟨c, rfl, c1, c2, c3, fun d d1 d2 d3 => ?_⟩⟩
    rcases Nat.decEq d c with q | q
    · have := (I.2.1 d c d1 c1 q (by omega) (by omega)).1
      omega
    · exact q
  · exact ⟨0, Or.inl ⟨rfl, fun c c1 c2 c3 => h ⟨c, c1, c2, c3⟩⟩⟩
theorem rl_visit {e f l n : Nat} {dn : Int32} (I : (rq_I ln fm tt le li rk we op mk wd wn pc ph pa pe pt se ls mo tp ac sz dw st ty ed fr sp go tk en ch ps pg cf ct la gr cr ne nl oe ol fl tl tn N)) (he : e < 16) (hln : ln e = 2) (hl : l ≤ 1) (hf : f ≤ 200) (hLI : rd_LI N e f l (bt dn) st ed fr la ch) (hn : n + rd_bc (rl_un st ed e dn) 32 ≤ 32) :
    ∃ (ps' la' ch' tl' : Nat → Nat) (dn' : Int32) (n' : Nat), (rq_I ln fm tt le li rk we op mk wd wn pc ph pa pe pt se ls mo tp ac sz dw st ty ed fr sp go tk en ch' ps' pg cf ct la' gr cr ne nl oe ol fl tl' tn N) ∧ n' + rd_bc (rl_un st ed e dn') 32 ≤ 32 ∧
    (∀ d, d < 32 → st d = 2 → ed d = e → (bt dn' d = true ↔ bt dn d = true ∨ (fr d = f ∧ la d = l))) ∧
    (∀ d, d < 32 → st d = 2 → ed d = e → (la' d = la d ∧ ch' d = ch d) ∨ (bt dn' d = true ∧ fr d = f ∧ ch' d = N + 1)) ∧
    (∀ post, (∀ m, 33 - n' ≤ m → wX_changeLanesOn_4 post (nI e) (nI tn) m dn' (nI n') (rn_A ln) (rn_A fm) (rn_A tt) (rn_A le) (rn_A li) (rn_A rk) (rn_A we) (rn_A op) (rn_A ca) (rn_A mk) (rn_B wd) (rn_B wn) (rn_A pc) (rn_A ph) (rn_A pa) (rn_A pe) (rn_A pt) (rn_A tp) (rn_A ac) (rn_A sz) (rn_A dw) (rn_A st) (rn_A ty) (rn_A ed) (rn_B ps') (rn_A fr) (rn_A sp) (rn_A go) (rn_A nz) (rn_B pg) (rn_B cf) (rn_B ct) (rn_A tk) (rn_A en) (rn_B ch') (rn_A nw) (rn_A tl')) → ∀ m, 33 - n ≤ m → wX_changeLanesOn_4 post (nI e) (nI tn) m dn (nI n) (rn_A ln) (rn_A fm) (rn_A tt) (rn_A le) (rn_A li) (rn_A rk) (rn_A we) (rn_A op) (rn_A ca) (rn_A mk) (rn_B wd) (rn_B wn) (rn_A pc) (rn_A ph) (rn_A pa) (rn_A pe) (rn_A pt) (rn_A tp) (rn_A ac) (rn_A sz) (rn_A dw) (rn_A st) (rn_A ty) (rn_A ed) (rn_B ps) (rn_A fr) (rn_A sp) (rn_A go) (rn_A nz) (rn_B pg) (rn_B cf) (rn_B ct) (rn_A tk) (rn_A en) (rn_B ch) (rn_A nw) (rn_A tl)) ∧
    (∀ post J m kn fa gp fs th, (rq_WY ln fm tt le li we op mk fa kn) → (∀ kn fa, (rq_WY ln fm tt le li we op mk fa kn) → wY_changeLanes_13 post J (nI e) (nI f) m (nI (l + 1)) (nI kn) (nI tn) th (rn_T ln) (rn_A op) (rn_A fm) (rn_A tt) (rn_A le) (rn_A ln) (rn_A li) (rn_A rk) (rn_A we) (rn_A ca) (rn_A mk) (rn_A fa) (rn_A tp) (rn_A ac) (rn_A sz) (rn_A dw) (rn_A st) (rn_A ty) (rn_A ed) (rn_A la') (rn_A fr) (rn_A sp) (rn_A go) (rn_A nz) (rn_A tk) (rn_C ch') (rn_A en) (rn_A nw) (rn_A gr) (rn_A cr) (rn_A ne) (rn_A nl) (rn_A oe) (rn_A ol) (rn_A fl) (rn_A pc) (rn_A ph) (rn_A pa) (rn_A se) (rn_A ls) (rn_A mo) (rn_A tl') gp fs) → wY_changeLanes_13 post J (nI e) (nI f) (m + 1) (nI l) (nI kn) (nI tn) th (rn_T ln) (rn_A op) (rn_A fm) (rn_A tt) (rn_A le) (rn_A ln) (rn_A li) (rn_A rk) (rn_A we) (rn_A ca) (rn_A mk) (rn_A fa) (rn_A tp) (rn_A ac) (rn_A sz) (rn_A dw) (rn_A st) (rn_A ty) (rn_A ed) (rn_A la) (rn_A fr) (rn_A sp) (rn_A go) (rn_A nz) (rn_A tk) (rn_C ch) (rn_A en) (rn_A nw) (rn_A gr) (rn_A cr) (rn_A ne) (rn_A nl) (rn_A oe) (rn_A ol) (rn_A fl) (rn_A pc) (rn_A ph) (rn_A pa) (rn_A se) (rn_A ls) (rn_A mo) (rn_A tl) gp fs) := by
  obtain ⟨k, hk⟩ := rl_at I e l f hl
  have hO := rI_on I.1
  have cat : ∀ {c}, c < 32 → ps c = 2 * e + l + 1 → st c = 2 ∧ ed c = e ∧ la c = l := fun c1 c2 => (rq_onI hO c1 hl).mpr c2
  have tac : ∀ {c}, c < 32 → st c = 2 → ed c = e → la c = l → ps c = 2 * e + l + 1 := fun c1 c2 c3 c4 => (rq_onI hO c1 hl).mp ⟨c2, c3, c4⟩
  -- Y's look at the place
  have lookY : ∀ (post : SY → Prop) J m kn fa gp fs th, (wY_changeLanes_13 post J (nI e) (nI f) (m + 1) (nI l) (nI kn) (nI tn) th (rn_T ln) (rn_A op) (rn_A fm) (rn_A tt) (rn_A le) (rn_A ln) (rn_A li) (rn_A rk) (rn_A we) (rn_A ca) (rn_A mk) (rn_A fa) (rn_A tp) (rn_A ac) (rn_A sz) (rn_A dw) (rn_A st) (rn_A ty) (rn_A ed) (rn_A la) (rn_A fr) (rn_A sp) (rn_A go) (rn_A nz) (rn_A tk) (rn_C ch) (rn_A en) (rn_A nw) (rn_A gr) (rn_A cr) (rn_A ne) (rn_A nl) (rn_A oe) (rn_A ol) (rn_A fl) (rn_A pc) (rn_A ph) (rn_A pa) (rn_A se) (rn_A ls) (rn_A mo) (rn_A tl) gp fs) = (wY_changeLanes_13 post J (nI e) (nI f) (m + 1) (nI l) (nI kn) (nI tn) th (rn_T ln) (rn_A op) (rn_A fm) (rn_A tt) (rn_A le) (rn_A ln) (rn_A li) (rn_A rk) (rn_A we) (rn_A ca) (rn_A mk) (rn_A fa) (rn_A tp) (rn_A ac) (rn_A sz) (rn_A dw) (rn_A st) (rn_A ty) (rn_A ed) (rn_A la) (rn_A fr) (rn_A sp) (rn_A go) (rn_A nz) (rn_A tk) (rn_C ch) (rn_A en) (rn_A nw) (rn_A gr) (rn_A cr) (rn_A ne) (rn_A nl) (rn_A oe) (rn_A ol) (rn_A fl) (rn_A pc) (rn_A ph) (rn_A pa) (rn_A se) (rn_A ls) (rn_A mo) (rn_A tl) gp fs) := fun _ _ _ _ _ _ _ _ => rfl
  rcases hk with ⟨k0, k1⟩ | ⟨c, k0, c1, c2, c3, c4⟩
  · refine ⟨ps, la, ch, tl, dn, n, I, hn, fun d d1 d2 d3 => ⟨Or.inl, fun w => w.elim id (fun v => absurd v.1 (k1 d d1 (tac d1 d2 d3 v.2)))⟩, fun d _ _ _ => Or.inl ⟨rfl, rfl⟩, fun post h => h, fun post J m kn fa gp fs th hW h => ?_⟩
    refine br_f (nI_ge (b := 2) (by omega) (by decide)) (ry_ca _ (k := k) rfl rfl rfl (by omega) hl (by omega) hO (rI_fr I.1) (Or.inl ⟨k0, k1⟩) ?_)
    subst k0
    exact br_t (by decide) (br_t rfl (nm_r (nI_1 l) (h kn fa hW)))
  · obtain ⟨s2, e2, l2⟩ := cat c1 c2
    have hk' : (k = 0 ∧ ∀ c, c < 32 → ps c = 2 * e + l + 1 → fr c ≠ f) ∨ (∃ c, k = c + 1 ∧ c < 32 ∧ ps c = 2 * e + l + 1 ∧ fr c = f ∧ ∀ d, d < 32 → ps d = 2 * e + l + 1 → fr d = f → d = c) := Or.inr ⟨c, k0, c1, c2, c3, c4⟩
    have lc := hLI c c1 s2 e2
    have la1 : la c ≤ 1 := by omega
    rcases hdn : bt dn c with _ | _
    · -- not done: X's foremost
      have hfo : rd_fo st ed fr ps (bt dn) e 32 = c + 1 := rd_LIf hLI I.2.1 (fun d d1 d2 d3 => by have := ((rI_p I.1 d1).2.2.2.1 d2).1; rw [d3] at this; exact this) c1 s2 e2 c3 l2 hdn
      have hbt : ∀ i, i < 32 → bt (dn ||| ((1 : Int32) <<< (nI c &&& 31))) i = (bt dn i || decide (i = c)) := fun i hi => rd_sto dn c1 hi
      have cnt : rd_bc (rl_un st ed e (dn ||| ((1 : Int32) <<< (nI c &&& 31)))) 32 + 1 = rd_bc (rl_un st ed e dn) 32 := by
        refine rd_bcD (c := c) ?_ ?_ c1 (fun a ha hac => ?_)
        · unfold rl_un; rw [hdn, decide_eq_true ⟨s2, e2⟩]; rfl
        · unfold rl_un; rw [hbt c c1, decide_eq_true (p := c = c) rfl, Bool.or_true]; simp
        · unfold rl_un; rw [hbt a ha, decide_eq_false hac, Bool.or_false]
      have n31 : n < 32 := by omega
      have A1 : ∀ d, d < 32 → st d = 2 → ed d = e → (bt (dn ||| ((1 : Int32) <<< (nI c &&& 31))) d = true ↔ bt dn d = true ∨ (fr d = f ∧ la d = l)) := by
        intro d d1 d2 d3
        rw [hbt d d1, Bool.or_eq_true, decide_eq_true_iff]
        constructor
        · rintro (w | w)
          · exact Or.inl w
          · subst w; exact Or.inr ⟨c3, l2⟩
        · rintro (w | w)
          · exact Or.inl w
          · exact Or.inr (c4 d d1 (tac d1 d2 d3 w.2) w.1)
      have hPS : ∀ c, c < 32 → st c = 2 → 0 < ps c := fun d d1 d2 => by have := ((rI_p I.1 d1).2.2.2.1 d2).1; omega
      rcases Classical.em ((rq_may pg ch) N c ∧ (rq_wants ln fm tt mk tp ty ed fr sp go ps (fun x => sz (ty x))) ((rq_nx wn ed go) c) (rq_ot (ps c)) c ∧ (rq_room fr sp ps pg (fun x => sz (ty x))) (rq_ot (ps c)) c) with M | M
      · refine ⟨ru_p ps c (rq_ot (ps c)), ru_p la c (1 - la c), ru_p ch c (N + 1), ru_p tl 3 (tl 3 + 1), _, n + 1, rl_I I c1 s2 (by rw [e2]; exact hln) M.1.1 M.2.2, by omega, A1, fun d d1 d2 d3 => ?_, fun post h m hm => ?_, fun post J m kn fa gp fs th hW h => ?_⟩
        · rcases Nat.decEq d c with q | q
          · rw [ru_n q, ru_n q]; exact Or.inl ⟨rfl, rfl⟩
          · subst q
            refine Or.inr ⟨?_, c3, ru_s⟩
            rw [A1 d c1 s2 e2]; exact Or.inr ⟨c3, l2⟩
        · obtain ⟨m', rfl⟩ : ∃ m', m = m' + 1 := ⟨m - 1, by omega⟩
          refine br_f (nI_ge (b := 32) n31 (by decide)) (rx_fo _ rfl he (rI_st I.1) (rI_ed I.1) (rI_fr I.1) (rI_ps I.1) hPS ?_)
          rw [hfo]
          refine br_f (fun w => ?_) (nm_e (rx_my _ rfl I.1 c1 (rb_b (fun q => absurd M.1 q) (fun _ => rx_wa _ rfl I.1 c1 s2 (rb_b (fun q => absurd M.2.1 q) (fun _ => rx_rm _ rfl I.1 c1 s2 (rb_b (fun q => absurd M.2.2 q) (fun _ => ⟨pk_in c 32 c1, pk_in c 32 c1, ?_⟩))))))))
          · have := (rn_c2 (n := c + 1) (by omega)).mp w; omega
          · refine nm_r (e' := rn_B (ru_p ps c (rq_ot (ps c)))) ?_ ⟨pk_in c 32 c1, nm_r (e' := rn_B (ru_p ch c (N + 1))) ?_ (nm_r (rn_u3 3) (nm_r (nI_1 n) (h m' (by omega))))⟩
            · show upd (rn_B ps) (nI c).toNatClampNeg (rn_B ps (nI c).toNatClampNeg ^^^ 1) = _
              rw [rn_rB (i := c) (by omega), rn_xc (by omega) (rI_ps I.1 c c1)]
              exact rn_uB (by omega)
            · show upd (rn_B ch) (nI c).toNatClampNeg (nI (tl 0)) = _
              rw [I.1.2.2.2.2.2.1]
              exact rn_uB (x := N + 1) (by omega)
        · refine br_f (nI_ge (b := 2) (by omega) (by decide)) (ry_ca _ (k := k) rfl rfl rfl (by omega) hl (by omega) hO (rI_fr I.1) hk' ?_)
          rw [k0]
          refine br_f (nI_pos (by omega)) (ry_my _ rfl I.1 hW c1 s2 (fun kn fa hW' => rb_b (fun q => absurd M q) (fun _ => br_f (by decide) ⟨pk_in c 32 c1, nm_r (e' := rn_A (ru_p la c (1 - la c))) ?_ ⟨pk_in c 32 c1, nm_r (e' := rn_C (ru_p ch c (N + 1))) ?_ (nm_r (rn_u3 3) (nm_r (nI_1 l) (h kn fa hW')))⟩⟩)))
          · show upd (rn_A la) (nI c).toNatClampNeg (1 - nI l) = _
            rw [show (1 : Int32) = nI 1 from rfl, pk_sub hl, ← l2]
            exact rn_uA (by omega)
          · show upd (rn_C ch) (nI c).toNatClampNeg (nI (tl 0)) = _
            rw [I.1.2.2.2.2.2.1]
            exact rn_uC (x := N + 1) (by omega)
      · refine ⟨ps, la, ch, tl, _, n + 1, I, by omega, A1, fun d _ _ _ => Or.inl ⟨rfl, rfl⟩, fun post h m hm => ?_, fun post J m kn fa gp fs th hW h => ?_⟩
        · obtain ⟨m', rfl⟩ : ∃ m', m = m' + 1 := ⟨m - 1, by omega⟩
          refine br_f (nI_ge (b := 32) n31 (by decide)) (rx_fo _ rfl he (rI_st I.1) (rI_ed I.1) (rI_fr I.1) (rI_ps I.1) hPS ?_)
          rw [hfo]
          have go1 := h m' (by omega)
          refine br_f (fun w => ?_) (nm_e (rx_my _ rfl I.1 c1 (rb_b (fun _ => nm_r (nI_1 n) go1) (fun q1 => rx_wa _ rfl I.1 c1 s2 (rb_b (fun _ => nm_r (nI_1 n) go1) (fun q2 => rx_rm _ rfl I.1 c1 s2 (rb_b (fun _ => nm_r (nI_1 n) go1) (fun q3 => absurd ⟨q1, q2, q3⟩ M))))))))
          have := (rn_c2 (n := c + 1) (by omega)).mp w; omega
        · refine br_f (nI_ge (b := 2) (by omega) (by decide)) (ry_ca _ (k := k) rfl rfl rfl (by omega) hl (by omega) hO (rI_fr I.1) hk' ?_)
          rw [k0]
          exact br_f (nI_pos (by omega)) (ry_my _ rfl I.1 hW c1 s2 (fun kn fa hW' => rb_b (fun _ => br_t rfl (nm_r (nI_1 l) (h kn fa hW'))) (fun q => absurd q M)))
    · -- done already: it changed in this step
      have l1 : l = 1 := by
        rcases lc.1 hdn with w | w
        · omega
        · exact w.1
      have chN := lc.2.2 hdn c3 (by omega)
      refine ⟨ps, la, ch, tl, dn, n, I, hn, fun d d1 d2 d3 => ⟨Or.inl, fun w => w.elim id (fun v => by have := c4 d d1 (tac d1 d2 d3 v.2) v.1; subst this; exact hdn)⟩, fun d _ _ _ => Or.inl ⟨rfl, rfl⟩, fun post h => h, fun post J m kn fa gp fs th hW h => ?_⟩
      refine br_f (nI_ge (b := 2) (by omega) (by decide)) (ry_ca _ (k := k) rfl rfl rfl (by omega) hl (by omega) hO (rI_fr I.1) hk' ?_)
      rw [k0]
      refine br_f (nI_pos (by omega)) (ry_my _ rfl I.1 hW c1 s2 (fun kn fa hW' => rb_b (fun _ => br_t rfl (nm_r (nI_1 l) (h kn fa hW'))) (fun q => ?_)))
      have := q.1.2
      omega
end
