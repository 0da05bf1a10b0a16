/-! CROSSINGS: X's readers, on -/
theorem rn_D12 : ∀ v, v < 13 → rd_D v ≤ 30 := by decide
section
variable {ln fm tt le li rk we op ca mk wd wn fa pc ph pa pe pt se ls mo tp ac sz dw st ty ed fr sp go nz tk en ch nw ps pg cf ct la gr cr ne nl oe ol fl tl : Nat → Nat} {tn kn N : Nat} {th : Int32} {gp fs : Nat → Int32}
theorem rI_fre (I : (rq_I ln fm tt le li rk we op mk wd wn pc ph pa pe pt se ls mo tp ac sz dw st ty ed fr sp go tk en ch ps pg cf ct la gr cr ne nl oe ol fl tl tn N)) {c : Nat} (hc : c < 32) (h2 : st c = 2) : 1 ≤ fr c ∧ fr c ≤ le (ed c) := by
  obtain ⟨q1, q2, q3, q4, q5, q6⟩ := rq_psE I.1.2.1 hc h2
  have := (I.2.2.2.2.2.2 c hc).1 q2
  rw [q1] at this
  exact this
theorem rI_leB (I : (rq_L ln fm tt le li rk we op mk wd wn pc ph pa pe pt se ls mo tp ac sz dw st ty ed fr sp go tk en ch ps pg cf ct la gr cr ne nl oe ol fl tl tn N)) {s c : Nat} (hc : c < 32) : rq_le fr ps s c ≤ 32 := by
  unfold rq_le
  have L := rd_nrL (ps := ps) (fr := fr) (s := ps c) (p := fr c) 32
  have L2 := rd_nrL (ps := ps) (fr := fr) (s := s) (p := 0) 32
  split
  · split <;> omega
  · omega
/-- the two cases of the one AHEAD -/
theorem rI_leC (I : (rq_L ln fm tt le li rk we op mk wd wn pc ph pa pe pt se ls mo tp ac sz dw st ty ed fr sp go tk en ch ps pg cf ct la gr cr ne nl oe ol fl tl tn N)) {s c a : Nat} (hc : c < 32) (h2 : st c = 2) (hs : s ≤ 32) (hq : 0 < s → rd_q s ≠ ed c) (ha : rq_le fr ps s c = a + 1) : a < 32 ∧ st a = 2 ∧ ((ed a = ed c ∧ (rd_nr ps fr) (ps c) (fr c) 32 = a + 1) ∨ (ed a ≠ ed c ∧ (rd_nr ps fr) (ps c) (fr c) 32 = 0 ∧ 0 < s ∧ (rd_nr ps fr) s 0 32 = a + 1)) := by
  obtain ⟨q1, q2, q3, q4, q5, q6⟩ := rq_psE I.2.1 hc h2
  have p1 := ((rI_p I hc).2.2.2.1 h2).1
  have hO := rI_on I
  unfold rq_le at ha
  by_cases z : (rd_nr ps fr) (ps c) (fr c) 32 = 0
  · rw [if_pos z] at ha
    by_cases w : s = 0
    · rw [if_pos w] at ha; omega
    · rw [if_neg w] at ha
      rcases rd_nrS (ps := ps) (fr := fr) (s := s) (p := 0) 32 with ⟨k1, _⟩ | ⟨b, k1, k2, k3, k4, _⟩
      · omega
      · have e : b = a := by omega
        subst e
        have s2 : st b = 2 := by
          rcases Nat.decEq (st b) 2 with y | y
          · have := (hO.2 b k2).2 y; omega
          · exact y
        obtain ⟨r1, r2, r3, r4, r5, r6⟩ := rq_psE I.2.1 k2 s2
        refine ⟨k2, s2, Or.inr ⟨?_, z, by omega, k1⟩⟩
        rw [← r1, k3]
        exact hq (by omega)
  · rw [if_neg z] at ha
    rcases rd_nrS (ps := ps) (fr := fr) (s := ps c) (p := fr c) 32 with ⟨k1, _⟩ | ⟨b, k1, k2, k3, k4, _⟩
    · omega
    · have e : b = a := by omega
      subst e
      obtain ⟨a1, a2, a3⟩ := (rq_onI hO k2 (l := la c) (e := ed c) q6).mpr (by rw [k3]; exact p1)
      exact ⟨k2, a1, Or.inl ⟨a2, k1⟩⟩
theorem rq_csE {s c : Nat} (s0 : 0 < s) : (rq_cs le ed fr sp go ps (fun x => sz (ty x))) s c ↔ (go c ≠ rd_q s → rd_D (sp c) + fr c ≤ le (ed c) + le (rd_q s)) ∧ (∀ a, rq_le fr ps s c = a + 1 → ((rd_nr ps fr) (ps c) (fr c) 32 = a + 1 → rd_Fo (fr c) (sp c) (fr a) (sp a) (sz (ty a))) ∧ ((rd_nr ps fr) (ps c) (fr c) 32 = 0 → rd_Fo (fr c) (sp c) (fr a + le (ed c)) (sp a) (sz (ty a)))) := by
  unfold rq_le
  constructor
  · rintro ⟨h1, h2, h3⟩
    refine ⟨h1, fun a ha => ⟨fun w => h2 a w, fun w => ?_⟩⟩
    rw [if_pos w, if_neg (by omega)] at ha
    exact h3 w a ha
  · rintro ⟨h1, h2⟩
    refine ⟨h1, fun a ha => ?_, fun w b hb => ?_⟩
    · exact (h2 a (by rw [if_neg (by omega)]; exact ha)).1 ha
    · exact (h2 b (by rw [if_pos w, if_neg (by omega)]; exact hb)).2 w
theorem rd_FoY {p v q w s k : Nat} : (0 ≤ (q : Int) - s - 1 - p + k ∧ (rd_D v : Int) ≤ (q : Int) - s - 1 - p + k + rd_D w) ↔ rd_Fo p v (q + k) w s := by
  unfold rd_Fo
  omega
theorem rx_cs (post : Int32 → Prop) {c : Nat} {x : Int32} (hx : x = nI c) (I : (rq_I ln fm tt le li rk we op mk wd wn pc ph pa pe pt se ls mo tp ac sz dw st ty ed fr sp go tk en ch ps pg cf ct la gr cr ne nl oe ol fl tl tn N)) (hc : c < 32) (h2 : st c = 2) (hn : 0 < (rq_nx wn ed go) c) (h : post (rb_ ((rq_cs le ed fr sp go ps (fun x => sz (ty x))) ((rq_as ln) ((rq_nx wn ed go) c) (ps c)) c))) : wpX_canCrossSafely post (nI tn, rn_A ln, rn_A fm, rn_A tt, rn_A le, rn_A li, rn_A rk, rn_A we, rn_A op, rn_A ca, rn_A mk, rn_B wd, rn_B wn, rn_A pc, rn_A ph, rn_A pa, rn_A pe, rn_A pt, rn_A tp, rn_A ac, rn_A sz, rn_A dw, rn_A st, rn_A ty, rn_A ed, rn_B ps, rn_A fr, rn_A sp, rn_A go, rn_A nz, rn_B pg, rn_B cf, rn_B ct, rn_A tk, rn_A en, rn_B ch, rn_A nw, rn_A tl) x := by
  subst hx
  have A := rI_c I.1 c
  have B := rI_e I.1 (ed c)
  obtain ⟨s1, s2, s3⟩ := rI_as I.1 hc h2
  obtain ⟨t1, t2, t3, t4, t5, t6⟩ := s2 hn
  have F := rI_fre I hc h2
  have q6 : rd_q ((rq_as ln) ((rq_nx wn ed go) c) (ps c)) < 16 := by have := (rI_nx I.1 c).1; omega
  have C := rI_e I.1 (rd_q ((rq_as ln) ((rq_nx wn ed go) c) (ps c)))
  unfold wpX_canCrossSafely
  refine rx_sa _ rfl I.1 hc h2 ?_
  rw [rb_e (rq_csE t1)] at h
  generalize hs : (rq_as ln) ((rq_nx wn ed go) c) (ps c) = s at *
  have d1 := rn_D12 (sp c) (by omega)
  have gb : -100000 < rq_ge le ed fr go s c ∧ rq_ge le ed fr go s c < 100000 := by
    unfold rq_ge
    split <;> split <;> omega
  refine rx_ge _ rfl rfl I.1 hc s1 ⟨pk_in c 32 hc, rx_safe _ (v := sp c) (w := 0) (by omega) (by omega) gb ?_ |> fun z => by rw [rn_rA (by omega)]; exact z⟩
  have en : (0 ≤ rq_ge le ed fr go s c ∧ (rd_D (sp c) : Int) ≤ rq_ge le ed fr go s c + rd_D 0) ↔ (go c ≠ rd_q s → rd_D (sp c) + fr c ≤ le (ed c) + le (rd_q s)) := by
    unfold rq_ge
    rw [if_neg (by omega), rd_D0]
    by_cases z : go c = rd_q s
    · rw [if_pos z]
      exact ⟨fun _ w => absurd z w, fun _ => by omega⟩
    · rw [if_neg z]
      constructor
      · intro w _; omega
      · intro w; have := w z; omega
  rw [rb_e en]
  refine rb_b (fun k1 => rb_p0 h (fun w => k1 w.1)) (fun k1 => rx_le _ rfl rfl I.1 hc h2 s1 ?_)
  have L := rI_leB I.1 (s := s) hc
  refine ek_f (rn_c2 (by omega)) (fun k2 => rb_p1 h ⟨k1, fun a ha => by omega⟩) (fun k2 => ?_)
  obtain ⟨a, ha⟩ : ∃ a, rq_le fr ps s c = a + 1 := ⟨rq_le fr ps s c - 1, by omega⟩
  obtain ⟨a1, a2, a3⟩ := rI_leC I.1 hc h2 s1 (fun _ => by rw [t2]; exact t4) ha
  have D := rI_c I.1 a
  have U := rI_y I.1 a
  rw [ha]
  have r1 : rn_A sp (rn_c (a + 1)).toNatClampNeg = nI (sp a) := rn_rA (by omega)
  have one : ∀ b, rq_le fr ps s c = b + 1 → b = a := fun b hb => by omega
  rcases a3 with ⟨e1, e2⟩ | ⟨e1, e2, e3, e4⟩
  · refine rx_gp _ rfl rfl I.1 hc a1 e1 ⟨pk_in c 32 hc, pk_in a 32 a1, ?_⟩
    rw [r1]
    refine rx_safe _ (by omega) (by omega) (by omega) ⟨rb_n _, ?_⟩
    rw [rb_e rd_FoZ]
    have q : ((go c ≠ rd_q s → rd_D (sp c) + fr c ≤ le (ed c) + le (rd_q s)) ∧ (∀ a, rq_le fr ps s c = a + 1 → ((rd_nr ps fr) (ps c) (fr c) 32 = a + 1 → rd_Fo (fr c) (sp c) (fr a) (sp a) (sz (ty a))) ∧ ((rd_nr ps fr) (ps c) (fr c) 32 = 0 → rd_Fo (fr c) (sp c) (fr a + le (ed c)) (sp a) (sz (ty a))))) ↔ rd_Fo (fr c) (sp c) (fr a) (sp a) (sz (ty a)) := by
      constructor
      · intro w; exact (w.2 a ha).1 e2
      · intro w
        refine ⟨k1, fun b hb => ?_⟩
        rw [one b hb]
        exact ⟨fun _ => w, fun y => by omega⟩
    rw [rb_e q] at h
    exact h
  · refine rx_gq _ rfl rfl I.1 hc a1 e1 ⟨pk_in c 32 hc, pk_in a 32 a1, ?_⟩
    rw [r1]
    refine rx_safe _ (by omega) (by omega) (by omega) ⟨rb_n _, ?_⟩
    rw [rb_e rd_FoY]
    have q : ((go c ≠ rd_q s → rd_D (sp c) + fr c ≤ le (ed c) + le (rd_q s)) ∧ (∀ a, rq_le fr ps s c = a + 1 → ((rd_nr ps fr) (ps c) (fr c) 32 = a + 1 → rd_Fo (fr c) (sp c) (fr a) (sp a) (sz (ty a))) ∧ ((rd_nr ps fr) (ps c) (fr c) 32 = 0 → rd_Fo (fr c) (sp c) (fr a + le (ed c)) (sp a) (sz (ty a))))) ↔ rd_Fo (fr c) (sp c) (fr a + le (ed c)) (sp a) (sz (ty a)) := by
      constructor
      · intro w; exact (w.2 a ha).2 e2
      · intro w
        refine ⟨k1, fun b hb => ?_⟩
        rw [one b hb]
        exact ⟨fun y => by omega, fun _ => w⟩
    rw [rb_e q] at h
    exact h
theorem rx_bd (post : Int32 → Prop) {c j : Nat} {x y : Int32} (hx : x = nI c) (hy : y = nI j) (I : (rq_L ln fm tt le li rk we op mk wd wn pc ph pa pe pt se ls mo tp ac sz dw st ty ed fr sp go tk en ch ps pg cf ct la gr cr ne nl oe ol fl tl tn N)) (hc : c < 32) (hj : j < 8) (h : post (rb_ ((rq_bd tt ed pg) j c))) : wpX_isBound post (nI tn, rn_A ln, rn_A fm, rn_A tt, rn_A le, rn_A li, rn_A rk, rn_A we, rn_A op, rn_A ca, rn_A mk, rn_B wd, rn_B wn, rn_A pc, rn_A ph, rn_A pa, rn_A pe, rn_A pt, rn_A tp, rn_A ac, rn_A sz, rn_A dw, rn_A st, rn_A ty, rn_A ed, rn_B ps, rn_A fr, rn_A sp, rn_A go, rn_A nz, rn_B pg, rn_B cf, rn_B ct, rn_A tk, rn_A en, rn_B ch, rn_A nw, rn_A tl) x y := by
  subst hx hy
  have A := rI_c I c
  have B := rI_e I (ed c)
  have P := rI_pg I c hc
  refine ⟨pk_in c 32 hc, ek_f (rn_2 (rn_rB (by omega)) (b := 0) rfl (by omega) (by omega)) (fun k1 => rb_p0 h (fun w => w.1 k1)) (fun k1 => ⟨pk_in c 32 hc, rn_iA (by omega) A.2.2.1 (by omega), ?_⟩)⟩
  exact ek_f (rn_e (rn_AA (by omega) (by omega)) (b := j) rfl (by omega) (by omega)) (fun k2 => rb_p1 h ⟨k1, k2⟩) (fun k2 => rb_p0 h (fun w => k2 w.2))
theorem rx_hd (post : Int32 → Prop) {c j : Nat} {x y : Int32} (hx : x = nI c) (hy : y = nI j) (I : (rq_L ln fm tt le li rk we op mk wd wn pc ph pa pe pt se ls mo tp ac sz dw st ty ed fr sp go tk en ch ps pg cf ct la gr cr ne nl oe ol fl tl tn N)) (hc : c < 32) (hj : j < 8) (h : post (rb_ ((rq_hd fm tt ed fr pg cf (fun x => sz (ty x))) j c))) : wpX_holds post (nI tn, rn_A ln, rn_A fm, rn_A tt, rn_A le, rn_A li, rn_A rk, rn_A we, rn_A op, rn_A ca, rn_A mk, rn_B wd, rn_B wn, rn_A pc, rn_A ph, rn_A pa, rn_A pe, rn_A pt, rn_A tp, rn_A ac, rn_A sz, rn_A dw, rn_A st, rn_A ty, rn_A ed, rn_B ps, rn_A fr, rn_A sp, rn_A go, rn_A nz, rn_B pg, rn_B cf, rn_B ct, rn_A tk, rn_A en, rn_B ch, rn_A nw, rn_A tl) x y := by
  subst hx hy
  have A := rI_c I c
  have B := rI_e I (ed c)
  have P := (rI_p I hc).2.2.1
  have S := rI_y I c
  have h44 : ¬ (cf c ≠ 0 ∧ fm (ed c) = j ∧ fr c < sz (ty c)) → wX_holds_44 post (nI c) (nI j) (nI tn) (rn_A ln) (rn_A fm) (rn_A tt) (rn_A le) (rn_A li) (rn_A rk) (rn_A we) (rn_A op) (rn_A ca) (rn_A mk) (rn_B wd) (rn_B wn) (rn_A pc) (rn_A ph) (rn_A pa) (rn_A pe) (rn_A pt) (rn_A tp) (rn_A ac) (rn_A sz) (rn_A dw) (rn_A st) (rn_A ty) (rn_A ed) (rn_B ps) (rn_A fr) (rn_A sp) (rn_A go) (rn_A nz) (rn_B pg) (rn_B cf) (rn_B ct) (rn_A tk) (rn_A en) (rn_B ch) (rn_A nw) (rn_A tl) := fun w => br_t rfl (rx_bd _ rfl rfl I hc hj (rb_b (fun k => rb_p0 h (fun v => v.elim w k)) (fun k => rb_p1 h (Or.inr k))))
  refine ⟨pk_in c 32 hc, ek_f (rn_2 (rn_rB (by omega)) (b := 0) rfl (by omega) (by omega)) (fun k1 => h44 (fun w => w.1 k1)) (fun k1 => ⟨pk_in c 32 hc, rn_iA (by omega) A.2.2.1 (by omega), ?_⟩)⟩
  refine ek_f (rn_e (rn_AA (by omega) (by omega)) (b := j) rfl (by omega) (by omega)) (fun k2 => ⟨pk_in c 32 hc, rx_sz _ rfl hc (fun c => (rI_c I c).2.1) ?_⟩) (fun k2 => h44 (fun w => k2 w.2.1))
  exact pk_le (sz (ty c)) (fr c) (fun k3 => h44 (fun w => by have := w.2.2; omega)) (fun k3 => br_f (by decide) (rb_p1 h (Or.inl ⟨k1, k2, k3⟩))) rfl (rn_rA (by omega))
theorem rx_hf (post : Int32 → Prop) {c j : Nat} {x y : Int32} (hx : x = nI c) (hy : y = nI j) (I : (rq_L ln fm tt le li rk we op mk wd wn pc ph pa pe pt se ls mo tp ac sz dw st ty ed fr sp go tk en ch ps pg cf ct la gr cr ne nl oe ol fl tl tn N)) (hc : c < 32) (hj : j < 8) (h : post (rn_c ((rq_hf tt ed ps pg cf) j c))) : wpX_heldFrom post (nI tn, rn_A ln, rn_A fm, rn_A tt, rn_A le, rn_A li, rn_A rk, rn_A we, rn_A op, rn_A ca, rn_A mk, rn_B wd, rn_B wn, rn_A pc, rn_A ph, rn_A pa, rn_A pe, rn_A pt, rn_A tp, rn_A ac, rn_A sz, rn_A dw, rn_A st, rn_A ty, rn_A ed, rn_B ps, rn_A fr, rn_A sp, rn_A go, rn_A nz, rn_B pg, rn_B cf, rn_B ct, rn_A tk, rn_A en, rn_B ch, rn_A nw, rn_A tl) x y := by
  subst hx hy
  unfold wpX_heldFrom
  unfold rq_hf at h
  refine rx_bd _ rfl rfl I hc hj (rb_b (fun k => ⟨pk_in c 32 hc, ?_⟩) (fun k => ⟨pk_in c 32 hc, ?_⟩))
  · rw [if_neg k] at h; rw [rn_rB (by omega)]; exact h
  · rw [if_pos k] at h; rw [rn_rB (by omega)]; exact h
theorem rx_ht (post : Int32 → Prop) {c j : Nat} {x y : Int32} (hx : x = nI c) (hy : y = nI j) (I : (rq_L ln fm tt le li rk we op mk wd wn pc ph pa pe pt se ls mo tp ac sz dw st ty ed fr sp go tk en ch ps pg cf ct la gr cr ne nl oe ol fl tl tn N)) (hc : c < 32) (hj : j < 8) (h : post (rn_c ((rq_ht tt ed pg ct) j c))) : wpX_heldTo post (nI tn, rn_A ln, rn_A fm, rn_A tt, rn_A le, rn_A li, rn_A rk, rn_A we, rn_A op, rn_A ca, rn_A mk, rn_B wd, rn_B wn, rn_A pc, rn_A ph, rn_A pa, rn_A pe, rn_A pt, rn_A tp, rn_A ac, rn_A sz, rn_A dw, rn_A st, rn_A ty, rn_A ed, rn_B ps, rn_A fr, rn_A sp, rn_A go, rn_A nz, rn_B pg, rn_B cf, rn_B ct, rn_A tk, rn_A en, rn_B ch, rn_A nw, rn_A tl) x y := by
  subst hx hy
  unfold wpX_heldTo
  unfold rq_ht at h
  refine rx_bd _ rfl rfl I hc hj (rb_b (fun k => ⟨pk_in c 32 hc, ?_⟩) (fun k => ⟨pk_in c 32 hc, ?_⟩))
  · rw [if_neg k] at h; rw [rn_rB (by omega)]; exact h
  · rw [if_pos k] at h; rw [rn_rB (by omega)]; exact h
/-- the codes of one that HOLDS, within -/
theorem rI_hB (I : (rq_L ln fm tt le li rk we op mk wd wn pc ph pa pe pt se ls mo tp ac sz dw st ty ed fr sp go tk en ch ps pg cf ct la gr cr ne nl oe ol fl tl tn N)) {j d : Nat} (hd : d < 32) (h : (rq_hd fm tt ed fr pg cf (fun x => sz (ty x))) j d) : (rq_hf tt ed ps pg cf) j d ≤ 32 ∧ (rq_ht tt ed pg ct) j d ≤ 32 ∧ 0 < (rq_hf tt ed ps pg cf) j d ∧ st d = 2 := by
  have P := rI_p I hd
  have A := rI_c I d
  obtain ⟨_, _, b3, b4, b5⟩ := I.2.1.2 d hd
  unfold rq_hf rq_ht
  by_cases z : (rq_bd tt ed pg) j d
  · rw [if_pos z, if_pos z]
    have g := rq_pgS I.2.1 hd (by have := z.1; omega)
    have := (P.2.2.2.1 g.1).1
    exact ⟨P.1, P.2.1, by omega, g.1⟩
  · rw [if_neg z, if_neg z]
    rcases h with h | h
    · have s2 : st d = 2 := by
        rcases Nat.decEq (st d) 2 with q | q
        · have := (b3 q).2.2; exact absurd this h.1
        · exact q
      rcases b5 s2 with q | q
      · exact absurd q.1 h.1
      · omega
    · exact absurd h z
theorem rx_or (post : Int32 → Prop) {c : Nat} {x y : Int32} (hx : x = nI c) (I : (rq_L ln fm tt le li rk we op mk wd wn pc ph pa pe pt se ls mo tp ac sz dw st ty ed fr sp go tk en ch ps pg cf ct la gr cr ne nl oe ol fl tl tn N)) (hc : c < 32) (h : post (rb_ (∃ d, d < 32 ∧ bt y d = true ∧ ps d ≠ ps c ∧ (rq_bf rk le ed fr ps) d c))) : wpX_isOutrun post (nI tn, rn_A ln, rn_A fm, rn_A tt, rn_A le, rn_A li, rn_A rk, rn_A we, rn_A op, rn_A ca, rn_A mk, rn_B wd, rn_B wn, rn_A pc, rn_A ph, rn_A pa, rn_A pe, rn_A pt, rn_A tp, rn_A ac, rn_A sz, rn_A dw, rn_A st, rn_A ty, rn_A ed, rn_B ps, rn_A fr, rn_A sp, rn_A go, rn_A nz, rn_B pg, rn_B cf, rn_B ct, rn_A tk, rn_A en, rn_B ch, rn_A nw, rn_A tl) x y := by
  subst hx
  have P := rI_ps I c hc
  refine loop_0 (fun n i (_ : Unit) => wX_isOutrun_2 post (nI c) y (nI tn) (rn_A ln) (rn_A fm) (rn_A tt) (rn_A le) (rn_A li) (rn_A rk) (rn_A we) (rn_A op) (rn_A ca) (rn_A mk) (rn_B wd) (rn_B wn) (rn_A pc) (rn_A ph) (rn_A pa) (rn_A pe) (rn_A pt) (rn_A tp) (rn_A ac) (rn_A sz) (rn_A dw) (rn_A st) (rn_A ty) (rn_A ed) (rn_B ps) (rn_A fr) (rn_A sp) (rn_A go) (rn_A nz) (rn_B pg) (rn_B cf) (rn_B ct) (rn_A tk) (rn_A en) (rn_B ch) (rn_A nw) (rn_A tl) n (nI i)) (fun i _ => ∀ d, d < i → ¬ (bt y d = true ∧ ps d ≠ ps c ∧ (rq_bf rk le ed fr ps) d c)) 32 () (fun c hc => absurd hc (Nat.not_lt_zero c)) ?_ ?_
  · intro n _ e
    exact br_t (by decide) (rb_p0 h (fun ⟨d, d1, d2⟩ => e d d1 d2))
  · intro n i _ hi e ih
    have P' := rI_ps I i hi
    refine pk_le 32 i (fun z => by omega) (fun _ => ?_)
    refine ek_f (rd_st1 y hi) (fun e1 => ⟨pk_in i 32 hi, pk_in c 32 hc, ?_⟩) (fun e1 => nm_r (nI_1 i) (ih () (lt_s e (fun w => e1 w.1))))
    refine ek_f (rn_2 (rn_rB (by omega)) (rn_rB (by omega)) (by omega) (by omega)) (fun e2 => nm_r (nI_1 i) (ih () (lt_s e (fun w => w.2.1 e2)))) (fun e2 => ?_)
    exact rx_bf _ rfl rfl I hi hc (rb_b (fun e3 => nm_r (nI_1 i) (ih () (lt_s e (fun w => e3 w.2.2)))) (fun e3 => rb_p1 h ⟨i, hi, e1, e2, e3⟩))
theorem rx_mh (post : Int32 → Prop) {c j : Nat} {x y w : Int32} (hx : x = nI c) (hy : y = nI j) (I : (rq_L ln fm tt le li rk we op mk wd wn pc ph pa pe pt se ls mo tp ac sz dw st ty ed fr sp go tk en ch ps pg cf ct la gr cr ne nl oe ol fl tl tn N)) (hc : c < 32) (h2 : st c = 2) (hj : j < 8) (h : post (rb_ ((rq_mh fm tt rk le ed fr ps pg cf ct (fun x => sz (ty x))) (fun d => bt w d = true) j ((rq_as ln) ((rq_nx wn ed go) c) (ps c)) c))) : wpX_mayHold post (nI tn, rn_A ln, rn_A fm, rn_A tt, rn_A le, rn_A li, rn_A rk, rn_A we, rn_A op, rn_A ca, rn_A mk, rn_B wd, rn_B wn, rn_A pc, rn_A ph, rn_A pa, rn_A pe, rn_A pt, rn_A tp, rn_A ac, rn_A sz, rn_A dw, rn_A st, rn_A ty, rn_A ed, rn_B ps, rn_A fr, rn_A sp, rn_A go, rn_A nz, rn_B pg, rn_B cf, rn_B ct, rn_A tk, rn_A en, rn_B ch, rn_A nw, rn_A tl) x y w := by
  subst hx hy
  have P := rI_ps I c hc
  obtain ⟨s1, s2, s3⟩ := rI_as I hc h2
  unfold wpX_mayHold
  refine rx_sa _ rfl I hc h2 ?_
  generalize hs : (rq_as ln) ((rq_nx wn ed go) c) (ps c) = s at *
  refine loop_0 (fun n i (b : Nat) => wX_mayHold_13 post (nI c) (nI j) w (rn_c s) (nI tn) (rn_A ln) (rn_A fm) (rn_A tt) (rn_A le) (rn_A li) (rn_A rk) (rn_A we) (rn_A op) (rn_A ca) (rn_A mk) (rn_B wd) (rn_B wn) (rn_A pc) (rn_A ph) (rn_A pa) (rn_A pe) (rn_A pt) (rn_A tp) (rn_A ac) (rn_A sz) (rn_A dw) (rn_A st) (rn_A ty) (rn_A ed) (rn_B ps) (rn_A fr) (rn_A sp) (rn_A go) (rn_A nz) (rn_B pg) (rn_B cf) (rn_B ct) (rn_A tk) (rn_A en) (rn_B ch) (rn_A nw) (rn_A tl) n (nI b) (nI i)) (fun i b => b ≤ 1 ∧ (∀ d, d < i → (rq_hd fm tt ed fr pg cf (fun x => sz (ty x))) j d → (rq_hf tt ed ps pg cf) j d = ps c ∧ (rq_ht tt ed pg ct) j d = s) ∧ (b = 1 ↔ ∃ d, d < i ∧ (rq_hd fm tt ed fr pg cf (fun x => sz (ty x))) j d)) 32 0 ⟨by omega, fun d hd => absurd hd (Nat.not_lt_zero d), fun z => by omega, fun ⟨d, hd, _⟩ => absurd hd (Nat.not_lt_zero d)⟩ ?_ ?_
  · rintro n b ⟨b1, b2, b3⟩
    refine br_t (by decide) (ek_f (rn_e rfl (b := 0) rfl (by omega) (by omega)) (fun z => rb_p1 h ⟨b2, fun v => by have := b3.mpr v; omega⟩) (fun z => ?_))
    refine rx_or _ rfl I hc (rb_b (fun q => rb_p1 h ⟨b2, fun _ d d1 d2 d3 d4 => q ⟨d, d1, d2, d3, d4⟩⟩) (fun ⟨d, d1, d2, d3, d4⟩ => rb_p0 h (fun v => v.2 (b3.mp (by omega)) d d1 d2 d3 d4)))
  · rintro n i b hi ⟨b1, b2, b3⟩ ih
    refine pk_le 32 i (fun z => by omega) (fun _ => rx_hd _ rfl rfl I hi hj (rb_b (fun k1 => nm_r (nI_1 i) (ih b ⟨b1, lt_s b2 (fun v => absurd v k1), ?_⟩)) (fun k1 => ?_)))
    · rw [b3]
      constructor
      · rintro ⟨d, d1, d2⟩; exact ⟨d, by omega, d2⟩
      · rintro ⟨d, d1, d2⟩
        rcases Nat.decEq d i with q | q
        · exact ⟨d, by omega, d2⟩
        · subst q; exact absurd d2 k1
    · obtain ⟨g1, g2, g3, g4⟩ := rI_hB I hi k1
      refine rx_hf _ rfl rfl I hi hj ⟨pk_in c 32 hc, ?_⟩
      refine ek_f (rn_2 rfl (rn_rB (by omega)) (by omega) (by omega)) (fun k2 => rx_ht _ rfl rfl I hi hj ?_) (fun k2 => rb_p0 h (fun v => k2 (v.1 i hi k1).1))
      refine ek_f (rn_2 rfl rfl (by omega) (by omega)) (fun k3 => nm_r (nI_1 i) (ih 1 ⟨by omega, lt_s b2 (fun _ => ⟨k2, k3⟩), fun _ => ⟨i, by omega, k1⟩, fun _ => rfl⟩)) (fun k3 => rb_p0 h (fun v => k3 (v.1 i hi k1).2))
theorem rx_1st (post : Int32 → Prop) {j : Nat} {x w : Int32} (hx : x = nI j) (I : (rq_I ln fm tt le li rk we op mk wd wn pc ph pa pe pt se ls mo tp ac sz dw st ty ed fr sp go tk en ch ps pg cf ct la gr cr ne nl oe ol fl tl tn N)) (hj : j < 8) (hw : ∀ c, c < 32 → bt w c = true → st c = 2 ∧ 0 < (rq_nx wn ed go) c) (h : post (rn_c (rq_1st (fun c => bt w c = true ∧ (rq_cs le ed fr sp go ps (fun x => sz (ty x))) ((rq_as ln) ((rq_nx wn ed go) c) (ps c)) c ∧ (rq_mh fm tt rk le ed fr ps pg cf ct (fun x => sz (ty x))) (fun d => bt w d = true) j ((rq_as ln) ((rq_nx wn ed go) c) (ps c)) c) (rq_bf rk le ed fr ps) 32))) : wpX_firstThatCan post (nI tn, rn_A ln, rn_A fm, rn_A tt, rn_A le, rn_A li, rn_A rk, rn_A we, rn_A op, rn_A ca, rn_A mk, rn_B wd, rn_B wn, rn_A pc, rn_A ph, rn_A pa, rn_A pe, rn_A pt, rn_A tp, rn_A ac, rn_A sz, rn_A dw, rn_A st, rn_A ty, rn_A ed, rn_B ps, rn_A fr, rn_A sp, rn_A go, rn_A nz, rn_B pg, rn_B cf, rn_B ct, rn_A tk, rn_A en, rn_B ch, rn_A nw, rn_A tl) x w := by
  subst hx
  refine loop_0 (fun n i (b : Nat) => wX_firstThatCan_6 post (nI j) w (nI tn) (rn_A ln) (rn_A fm) (rn_A tt) (rn_A le) (rn_A li) (rn_A rk) (rn_A we) (rn_A op) (rn_A ca) (rn_A mk) (rn_B wd) (rn_B wn) (rn_A pc) (rn_A ph) (rn_A pa) (rn_A pe) (rn_A pt) (rn_A tp) (rn_A ac) (rn_A sz) (rn_A dw) (rn_A st) (rn_A ty) (rn_A ed) (rn_B ps) (rn_A fr) (rn_A sp) (rn_A go) (rn_A nz) (rn_B pg) (rn_B cf) (rn_B ct) (rn_A tk) (rn_A en) (rn_B ch) (rn_A nw) (rn_A tl) n (rn_c b) (nI i)) (fun i b => b = rq_1st (fun c => bt w c = true ∧ (rq_cs le ed fr sp go ps (fun x => sz (ty x))) ((rq_as ln) ((rq_nx wn ed go) c) (ps c)) c ∧ (rq_mh fm tt rk le ed fr ps pg cf ct (fun x => sz (ty x))) (fun d => bt w d = true) j ((rq_as ln) ((rq_nx wn ed go) c) (ps c)) c) (rq_bf rk le ed fr ps) i) 32 0 rfl ?_ ?_
  · intro n b e
    rw [← e] at h
    exact br_t (by decide) h
  · intro n i b hi e ih
    have F := rq_1stS (fun c => bt w c = true ∧ (rq_cs le ed fr sp go ps (fun x => sz (ty x))) ((rq_as ln) ((rq_nx wn ed go) c) (ps c)) c ∧ (rq_mh fm tt rk le ed fr ps pg cf ct (fun x => sz (ty x))) (fun d => bt w d = true) j ((rq_as ln) ((rq_nx wn ed go) c) (ps c)) c) (rq_bf rk le ed fr ps) i
    rw [← e] at F
    have b32 : b ≤ i := by rcases F with f | ⟨a, f1, f2, _⟩ <;> omega
    refine pk_le 32 i (fun z => by omega) (fun _ => ?_)
    refine ek_f (rd_st1 w hi) (fun e1 => ?_) (fun e1 => nm_r (nI_1 i) (ih b (by rw [rq_1stN (fun v => e1 v.1.1)]; exact e)))
    obtain ⟨w1, w2⟩ := hw i hi e1
    have s39 : (b = 0 ∨ (rq_bf rk le ed fr ps) i (b - 1)) → wX_firstThatCan_39 post (wX_firstThatCan_6 post (nI j) w (nI tn) (rn_A ln) (rn_A fm) (rn_A tt) (rn_A le) (rn_A li) (rn_A rk) (rn_A we) (rn_A op) (rn_A ca) (rn_A mk) (rn_B wd) (rn_B wn) (rn_A pc) (rn_A ph) (rn_A pa) (rn_A pe) (rn_A pt) (rn_A tp) (rn_A ac) (rn_A sz) (rn_A dw) (rn_A st) (rn_A ty) (rn_A ed) (rn_B ps) (rn_A fr) (rn_A sp) (rn_A go) (rn_A nz) (rn_B pg) (rn_B cf) (rn_B ct) (rn_A tk) (rn_A en) (rn_B ch) (rn_A nw) (rn_A tl) n) (nI j) w (rn_c b) (nI i) (nI tn) (rn_A ln) (rn_A fm) (rn_A tt) (rn_A le) (rn_A li) (rn_A rk) (rn_A we) (rn_A op) (rn_A ca) (rn_A mk) (rn_B wd) (rn_B wn) (rn_A pc) (rn_A ph) (rn_A pa) (rn_A pe) (rn_A pt) (rn_A tp) (rn_A ac) (rn_A sz) (rn_A dw) (rn_A st) (rn_A ty) (rn_A ed) (rn_B ps) (rn_A fr) (rn_A sp) (rn_A go) (rn_A nz) (rn_B pg) (rn_B cf) (rn_B ct) (rn_A tk) (rn_A en) (rn_B ch) (rn_A nw) (rn_A tl) := by
      intro k
      refine rx_cs _ rfl I hi w1 w2 (rb_b (fun q => nm_r (nI_1 i) (ih b (by rw [rq_1stN (fun v => q v.1.2.1)]; exact e))) (fun q => ?_))
      refine rx_mh _ rfl rfl I.1 hi w1 hj (rb_b (fun q2 => nm_r (nI_1 i) (ih b (by rw [rq_1stN (fun v => q2 v.1.2.2)]; exact e))) (fun q2 => nm_r (nI_1 i) (ih (i + 1) ?_)))
      rw [rq_1stP ⟨⟨e1, q, q2⟩, by rw [← e]; exact k⟩]
    refine ek_f (rn_c2 (by omega)) (fun e2 => s39 (Or.inl e2)) (fun e2 => ?_)
    refine rx_bf _ rfl (rn_cs (by omega)) I.1 hi (by omega) (rb_b (fun e3 => nm_r (nI_1 i) (ih b ?_)) (fun e3 => s39 (Or.inr e3)))
    rw [rq_1stN (fun v => by rw [← e] at v; exact v.2.elim e2 e3)]; exact e
end
