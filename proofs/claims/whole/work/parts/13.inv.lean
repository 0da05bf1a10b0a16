/-! all that holds, but for the safety of the cars: L; with it: I -/
def rq_L (ln fm tt le li rk we op mk wd wn pc ph pa pe pt se ls mo tp ac sz dw st ty ed fr sp go tk en ch ps pg cf ct la gr cr ne nl oe ol fl tl : Nat → Nat) (tn N : Nat) : Prop :=
  (rq_E ln fm tt le li rk we op mk) ∧ (rq_C ln st ty ed fr sp go tk en ch ps pg cf ct la gr cr ne nl oe ol fl tn N) ∧ (rq_P pc ph pa pe pt se ls mo N) ∧ (rq_Ty tp ac sz dw) ∧ (rq_WX ln fm tt le li we op mk wd wn) ∧ tl 0 = N ∧ N ≤ 20000 ∧ tn ≤ 5000
def rq_I (ln fm tt le li rk we op mk wd wn pc ph pa pe pt se ls mo tp ac sz dw st ty ed fr sp go tk en ch ps pg cf ct la gr cr ne nl oe ol fl tl : Nat → Nat) (tn N : Nat) : Prop :=
  (rq_L ln fm tt le li rk we op mk wd wn pc ph pa pe pt se ls mo tp ac sz dw st ty ed fr sp go tk en ch ps pg cf ct la gr cr ne nl oe ol fl tl tn N) ∧ (rd_Safe le fm tt ps pg fr sp go (fun x => sz (ty x)))
section
variable {ln fm tt le li rk we op ca mk wd wn fa pc ph pa pe pt se ls mo tp ac sz dw st ty ed fr sp go nz tk en ch nw ps pg cf ct la gr cr ne nl oe ol fl tl : Nat → Nat} {tn kn N : Nat} {th : Int32} {gp fs : Nat → Int32}
theorem rI_e (I : (rq_L ln fm tt le li rk we op mk wd wn pc ph pa pe pt se ls mo tp ac sz dw st ty ed fr sp go tk en ch ps pg cf ct la gr cr ne nl oe ol fl tl tn N)) (e : Nat) : ln e ≤ 2 ∧ fm e < 8 ∧ tt e < 8 ∧ le e ≤ 200 ∧ li e ≤ 12 ∧ rk e ≤ 3 ∧ we e ≤ 1000 ∧ op e ≤ 1 ∧ mk e < 65536 := I.1.1 e
theorem rI_t (I : (rq_L ln fm tt le li rk we op mk wd wn pc ph pa pe pt se ls mo tp ac sz dw st ty ed fr sp go tk en ch ps pg cf ct la gr cr ne nl oe ol fl tl tn N)) {e : Nat} (h : 0 < ln e) : fm e ≠ tt e ∧ 20 ≤ le e ∧ 1 ≤ li e := I.1.2.1 e h
theorem rI_c (I : (rq_L ln fm tt le li rk we op mk wd wn pc ph pa pe pt se ls mo tp ac sz dw st ty ed fr sp go tk en ch ps pg cf ct la gr cr ne nl oe ol fl tl tn N)) (c : Nat) : st c ≤ 2 ∧ ty c < 4 ∧ ed c < 16 ∧ go c < 16 ∧ fr c ≤ 400 ∧ sp c ≤ 12 ∧ tk c ≤ tn ∧ en c ≤ N ∧ ch c ≤ N + 1 ∧ la c ≤ 1 := I.2.1.1 c
theorem rI_y (I : (rq_L ln fm tt le li rk we op mk wd wn pc ph pa pe pt se ls mo tp ac sz dw st ty ed fr sp go tk en ch ps pg cf ct la gr cr ne nl oe ol fl tl tn N)) (c : Nat) : 1 ≤ tp (ty c) ∧ tp (ty c) ≤ 12 ∧ 1 ≤ ac (ty c) ∧ ac (ty c) ≤ 3 ∧ 3 ≤ sz (ty c) ∧ sz (ty c) ≤ 8 ∧ dw (ty c) ≤ 9 := I.2.2.2.1 _ (rI_c I c).2.1
/-- the codes of a car, within -/
theorem rI_p (I : (rq_L ln fm tt le li rk we op mk wd wn pc ph pa pe pt se ls mo tp ac sz dw st ty ed fr sp go tk en ch ps pg cf ct la gr cr ne nl oe ol fl tl tn N)) {c : Nat} (hc : c < 32) : ps c ≤ 32 ∧ pg c ≤ 32 ∧ cf c ≤ 32 ∧ (st c = 2 → ps c = 2 * ed c + la c + 1 ∧ la c < ln (ed c)) ∧ (st c ≠ 2 → ps c = 0 ∧ pg c = 0 ∧ cf c = 0) ∧ (st c ≠ 0 → 0 < ln (ed c) ∧ 0 < ln (go c)) := by
  have a := rI_c I c
  obtain ⟨b1, b2, b3, b4, b5⟩ := I.2.1.2 c hc
  refine ⟨?_, ?_, ?_, b2, b3, b1⟩
  · rcases Nat.decEq (st c) 2 with z | z
    · have := b3 z; omega
    · have := b2 z; omega
  · rcases b4 with q | q
    · omega
    · have := (rI_e I (ne c)).1
      omega
  · rcases Nat.decEq (st c) 2 with z | z
    · have := b3 z; omega
    · rcases b5 z with q | q <;> omega
theorem rI_on (I : (rq_L ln fm tt le li rk we op mk wd wn pc ph pa pe pt se ls mo tp ac sz dw st ty ed fr sp go tk en ch ps pg cf ct la gr cr ne nl oe ol fl tl tn N)) : (rq_on st ed la ps) := ⟨fun c => ⟨(rI_c I c).1, (rI_c I c).2.2.1, (rI_c I c).2.2.2.2.2.2.2.2.2⟩, fun c hc => ⟨fun h => ((rI_p I hc).2.2.2.1 h).1, fun h => ((rI_p I hc).2.2.2.2.1 h).1⟩⟩
theorem rI_gd (I : (rq_L ln fm tt le li rk we op mk wd wn pc ph pa pe pt se ls mo tp ac sz dw st ty ed fr sp go tk en ch ps pg cf ct la gr cr ne nl oe ol fl tl tn N)) : (rq_gd st gr ne nl pg) := by
  intro c hc
  have a := rI_c I c
  obtain ⟨b1, b2, b3, b4, b5⟩ := I.2.1.2 c hc
  refine ⟨a.1, ?_⟩
  rcases b4 with q | q
  · exact Or.inl q
  · right
    have := (rI_e I (ne c)).1
    have s2 : st c = 2 := by
      rcases Nat.decEq (st c) 2 with z | z
      · have := b3 z; omega
      · exact z
    exact ⟨s2, q.1, q.2.1, by omega, q.2.2.2⟩
theorem rI_ps (I : (rq_L ln fm tt le li rk we op mk wd wn pc ph pa pe pt se ls mo tp ac sz dw st ty ed fr sp go tk en ch ps pg cf ct la gr cr ne nl oe ol fl tl tn N)) : ∀ c, c < 32 → ps c ≤ 32 := fun c hc => (rI_p I hc).1
theorem rI_pg (I : (rq_L ln fm tt le li rk we op mk wd wn pc ph pa pe pt se ls mo tp ac sz dw st ty ed fr sp go tk en ch ps pg cf ct la gr cr ne nl oe ol fl tl tn N)) : ∀ c, c < 32 → pg c ≤ 32 := fun c hc => (rI_p I hc).2.1
theorem rI_fr (I : (rq_L ln fm tt le li rk we op mk wd wn pc ph pa pe pt se ls mo tp ac sz dw st ty ed fr sp go tk en ch ps pg cf ct la gr cr ne nl oe ol fl tl tn N)) : ∀ c, fr c ≤ 400 := fun c => (rI_c I c).2.2.2.2.1
theorem rI_st (I : (rq_L ln fm tt le li rk we op mk wd wn pc ph pa pe pt se ls mo tp ac sz dw st ty ed fr sp go tk en ch ps pg cf ct la gr cr ne nl oe ol fl tl tn N)) : ∀ c, st c ≤ 2 := fun c => (rI_c I c).1
theorem rI_ed (I : (rq_L ln fm tt le li rk we op mk wd wn pc ph pa pe pt se ls mo tp ac sz dw st ty ed fr sp go tk en ch ps pg cf ct la gr cr ne nl oe ol fl tl tn N)) : ∀ c, ed c < 16 := fun c => (rI_c I c).2.2.1
theorem rI_tk (I : (rq_L ln fm tt le li rk we op mk wd wn pc ph pa pe pt se ls mo tp ac sz dw st ty ed fr sp go tk en ch ps pg cf ct la gr cr ne nl oe ol fl tl tn N)) : ∀ c, tk c ≤ 5000 := fun c => by have := (rI_c I c).2.2.2.2.2.2.1; have := I.2.2.2.2.2.2.2; omega
/-- NEXT, by its code -/
theorem rI_nx (I : (rq_L ln fm tt le li rk we op mk wd wn pc ph pa pe pt se ls mo tp ac sz dw st ty ed fr sp go tk en ch ps pg cf ct la gr cr ne nl oe ol fl tl tn N)) (c : Nat) : (rq_nx wn ed go) c ≤ 16 ∧ (0 < (rq_nx wn ed go) c → ed c ≠ go c ∧ (rq_K ln fm tt op mk) (ed c) ((rq_nx wn ed go) c - 1)) := rq_wnB I.2.2.2.2.1 (rI_c I c).2.2.1 (rI_c I c).2.2.2.1
/-! X -/
theorem rx_ld (post : Int32 → Prop) {s n : Nat} {x y : Int32} (hx : x = nI s) (hy : y = rn_c n) (hE : (rq_E ln fm tt le li rk we op mk)) (hs : s < 32) (hn : n ≤ 16) (h : post (rb_ (0 < n ∧ (rq_ld ln fm tt mk) s (n - 1)))) : wpX_leads post (nI tn, rn_A ln, rn_A fm, rn_A tt, rn_A le, rn_A li, rn_A rk, rn_A we, rn_A op, rn_A ca, rn_A mk, rn_B wd, rn_B wn, rn_A pc, rn_A ph, rn_A pa, rn_A pe, rn_A pt, rn_A tp, rn_A ac, rn_A sz, rn_A dw, rn_A st, rn_A ty, rn_A ed, rn_B ps, rn_A fr, rn_A sp, rn_A go, rn_A nz, rn_B pg, rn_B cf, rn_B ct, rn_A tk, rn_A en, rn_B ch, rn_A nw, rn_A tl) x y := by
  subst hx hy
  rcases Nat.eq_zero_or_pos n with z | z
  · subst z
    rw [rb_f (by omega)] at h
    exact br_t (by decide) h
  · rw [rn_cs z]
    have A := hE.1 (n - 1)
    have B := hE.1 (s / 2)
    have C := hE.1 s
    refine br_f (nI_pos (by omega)) ⟨pk_in (n - 1) 16 (by omega), ?_⟩
    refine pk_le (ln (n - 1)) 0 (fun y => rb_p0 h (fun w => by have := w.2.1; omega)) (fun y => ⟨pk_in (n - 1) 16 (by omega), by decide, ?_⟩) (rn_rA (by omega))
    rw [show nI s / 2 = nI (s / 2) from pk_div (d := 2) (by omega) (by omega) (by omega)]
    refine ⟨pk_in (s / 2) 16 (by omega), ?_⟩
    refine ek_f (rn_e (rn_rA (by omega)) (rn_rA (by omega)) (by omega) (by omega)) (fun e3 => ⟨pk_in s 32 hs, ?_⟩) (fun e3 => rb_p0 h (fun w => e3 w.2.2.1))
    rw [rn_rA (by omega)]
    exact ek_f (rd_bt1 (by omega) (by omega)) (fun e4 => rb_p1 h ⟨z, y, e3, e4⟩) (fun e4 => rb_p0 h (fun w => e4 w.2.2.2))
theorem rx_el (post : Int32 → Prop) {e f : Nat} {x y : Int32} (hx : x = nI e) (hy : y = nI f) (hE : (rq_E ln fm tt le li rk we op mk)) (he : e < 16) (hf : f < 16) (h : post (rb_ ((rq_el ln fm tt mk) e f))) : wpX_edgeLeads post (nI tn, rn_A ln, rn_A fm, rn_A tt, rn_A le, rn_A li, rn_A rk, rn_A we, rn_A op, rn_A ca, rn_A mk, rn_B wd, rn_B wn, rn_A pc, rn_A ph, rn_A pa, rn_A pe, rn_A pt, rn_A tp, rn_A ac, rn_A sz, rn_A dw, rn_A st, rn_A ty, rn_A ed, rn_B ps, rn_A fr, rn_A sp, rn_A go, rn_A nz, rn_B pg, rn_B cf, rn_B ct, rn_A tk, rn_A en, rn_B ch, rn_A nw, rn_A tl) x y := by
  subst hx hy
  have A := hE.1 e
  unfold wpX_edgeLeads
  refine rx_ld _ (s := 2 * e) (n := f + 1) (pk_mul 2 e) rfl hE (by omega) (by omega) ?_
  refine rb_b (fun k1 => ⟨pk_in e 16 he, ?_⟩) (fun k1 => rb_p1 h (Or.inl k1.2))
  have n1 : ¬ (rq_ld ln fm tt mk) (2 * e) f := fun w => k1 ⟨by omega, w⟩
  refine ek_f (rn_e (rn_rA (by omega)) (b := 2) rfl (by omega) (by omega)) (fun e2 => ?_) (fun e2 => rb_p0 h (fun w => w.elim n1 (fun v => e2 v.1)))
  refine rx_ld _ (s := 2 * e + 1) (n := f + 1) (by rw [show (2 : Int32) * nI e = nI (2 * e) from pk_mul 2 e]; exact nI_1 _) rfl hE (by omega) (by omega) ?_
  exact rb_b (fun k2 => rb_p0 h (fun w => w.elim n1 (fun v => k2 ⟨by omega, v.2⟩))) (fun k2 => rb_p1 h (Or.inr ⟨e2, k2.2⟩))
theorem rx_co (post : Int32 → Prop) {e : Nat} {x : Int32} (hx : x = nI e) (hE : (rq_E ln fm tt le li rk we op mk)) (he : e < 16) (ht : 0 < ln e) (h : post (nI ((rq_co le li we) e))) : wpX_costOf post (nI tn, rn_A ln, rn_A fm, rn_A tt, rn_A le, rn_A li, rn_A rk, rn_A we, rn_A op, rn_A ca, rn_A mk, rn_B wd, rn_B wn, rn_A pc, rn_A ph, rn_A pa, rn_A pe, rn_A pt, rn_A tp, rn_A ac, rn_A sz, rn_A dw, rn_A st, rn_A ty, rn_A ed, rn_B ps, rn_A fr, rn_A sp, rn_A go, rn_A nz, rn_B pg, rn_B cf, rn_B ct, rn_A tk, rn_A en, rn_B ch, rn_A nw, rn_A tl) x := by
  subst hx
  have A := hE.1 e
  have B := hE.2.1 e ht
  refine ⟨pk_in e 16 he, nm_r (rn_rA (by omega)) ?_⟩
  refine pk_le 1 (li e) (fun _ => ⟨pk_in e 16 he, nI_ne0 (by omega) (by omega), pk_in e 16 he, ?_⟩) (fun z => by omega)
  rw [rn_rA (by omega), rn_rA (by omega), nI_add, show (1 : Int32) = nI 1 from rfl, pk_sub (by omega), pk_div (by omega) (by omega) (by omega), nI_add]
  exact h
/-- the number of an edge that is there -/
def rq_th (ln : Nat → Nat) (x : Int32) : Prop := ∃ e, e < 16 ∧ x = nI e ∧ 0 < ln e
def rq_la (ln : Nat → Nat) (x y : Int32) : Prop := ∃ e l, e < 16 ∧ x = nI e ∧ y = nI l ∧ l < ln e
theorem rn_16 {x : Int32} {M : Nat} (hM : M < 2147483648) (k0 : ¬ x < 0) (k1 : ¬ nI M ≤ x) : ∃ e, e < M ∧ x = nI e := by
  obtain ⟨e, he, rfl⟩ := nI_of k0
  refine ⟨e, ?_, rfl⟩
  rcases Nat.lt_or_ge e M with z | z
  · exact z
  · exact absurd (nI_le z he) k1
theorem rn_o {x : Int32} {e M : Nat} (hx : x = nI e) (he : e < M) (hM : M < 2147483648) : ¬ x < 0 ∧ ¬ nI M ≤ x := by
  subst hx
  exact ⟨nI_pos (by omega), nI_ge he hM⟩
theorem rx_ie (post : Int32 → Prop) (x : Int32) (hE : ∀ e, ln e ≤ 2) (h : post (rb_ (rq_th ln x))) : wpX_isEdge post (nI tn, rn_A ln, rn_A fm, rn_A tt, rn_A le, rn_A li, rn_A rk, rn_A we, rn_A op, rn_A ca, rn_A mk, rn_B wd, rn_B wn, rn_A pc, rn_A ph, rn_A pa, rn_A pe, rn_A pt, rn_A tp, rn_A ac, rn_A sz, rn_A dw, rn_A st, rn_A ty, rn_A ed, rn_B ps, rn_A fr, rn_A sp, rn_A go, rn_A nz, rn_B pg, rn_B cf, rn_B ct, rn_A tk, rn_A en, rn_B ch, rn_A nw, rn_A tl) x := by
  refine br_c (fun k => ?_) (fun k0 => br_c (fun k => ?_) (fun k1 => ?_))
  · exact rb_p0 h (fun ⟨e, e1, e2, _⟩ => (rn_o e2 e1 (by omega)).1 k)
  · exact rb_p0 h (fun ⟨e, e1, e2, _⟩ => (rn_o e2 e1 (by omega)).2 k)
  · obtain ⟨e, e6, rfl⟩ := rn_16 (M := 16) (by omega) k0 k1
    have A := hE e
    refine ⟨pk_in e 16 e6, pk_le (ln e) 0 (fun z => ?_) (fun z => ?_) (rn_rA (by omega))⟩
    · exact rb_p0 h (fun ⟨d, d1, d2, d3⟩ => by rw [nI_eq (by omega) (by omega)] at d2; subst d2; omega)
    · exact rb_p1 h ⟨e, e6, rfl, z⟩
theorem rx_il (post : Int32 → Prop) (x y : Int32) (hE : ∀ e, ln e ≤ 2) (h : post (rb_ (rq_la ln x y))) : wpX_isLane post (nI tn, rn_A ln, rn_A fm, rn_A tt, rn_A le, rn_A li, rn_A rk, rn_A we, rn_A op, rn_A ca, rn_A mk, rn_B wd, rn_B wn, rn_A pc, rn_A ph, rn_A pa, rn_A pe, rn_A pt, rn_A tp, rn_A ac, rn_A sz, rn_A dw, rn_A st, rn_A ty, rn_A ed, rn_B ps, rn_A fr, rn_A sp, rn_A go, rn_A nz, rn_B pg, rn_B cf, rn_B ct, rn_A tk, rn_A en, rn_B ch, rn_A nw, rn_A tl) x y := by
  refine br_c (fun k => ?_) (fun k0 => br_c (fun k => ?_) (fun k1 => br_c (fun k => ?_) (fun k2 => ?_)))
  · exact rb_p0 h (fun ⟨e, l, e1, e2, _⟩ => (rn_o e2 e1 (by omega)).1 k)
  · exact rb_p0 h (fun ⟨e, l, e1, e2, _⟩ => (rn_o e2 e1 (by omega)).2 k)
  · exact rb_p0 h (fun ⟨e, l, e1, e2, e3, e4⟩ => by have := hE e; exact (rn_o e3 e4 (by omega)).1 k)
  · obtain ⟨e, e6, rfl⟩ := rn_16 (M := 16) (by omega) k0 k1
    obtain ⟨l, hl, rfl⟩ := nI_of k2
    have A := hE e
    refine ⟨pk_in e 16 e6, pk_le (ln e) l (fun z => ?_) (fun z => ?_) (rn_rA (by omega))⟩
    · exact rb_p0 h (fun ⟨d, l', d1, d2, d3, d4⟩ => by
        rw [nI_eq (by omega) (by omega)] at d2
        subst d2
        rw [nI_eq (by omega) (by omega)] at d3
        omega)
    · exact rb_p1 h ⟨e, l, e6, rfl, rfl, z⟩
theorem rx_nx (post : Int32 → Prop) {c : Nat} {x : Int32} (hx : x = nI c) (hc : c < 32) (hE : ∀ c, ed c < 16) (hG : ∀ c, go c < 16) (h : post (rn_c ((rq_nx wn ed go) c))) : wpX_nextOf post (nI tn, rn_A ln, rn_A fm, rn_A tt, rn_A le, rn_A li, rn_A rk, rn_A we, rn_A op, rn_A ca, rn_A mk, rn_B wd, rn_B wn, rn_A pc, rn_A ph, rn_A pa, rn_A pe, rn_A pt, rn_A tp, rn_A ac, rn_A sz, rn_A dw, rn_A st, rn_A ty, rn_A ed, rn_B ps, rn_A fr, rn_A sp, rn_A go, rn_A nz, rn_B pg, rn_B cf, rn_B ct, rn_A tk, rn_A en, rn_B ch, rn_A nw, rn_A tl) x := by
  subst hx
  have A := hE c
  have B := hG c
  refine ⟨pk_in c 32 hc, pk_in c 32 hc, ?_⟩
  rw [rn_rA (by omega), rn_rA (by omega), show (16 : Int32) * nI (ed c) = nI (16 * ed c) from pk_mul 16 _, nI_add, rn_rB (by omega)]
  exact ⟨vp_in_nI (by omega) (by omega), h⟩
theorem rx_sz (post : Int32 → Prop) {c : Nat} {x : Int32} (hx : x = nI c) (hc : c < 32) (hT : ∀ c, ty c < 4) (h : post (nI (sz (ty c)))) : wpX_sizeOf post (nI tn, rn_A ln, rn_A fm, rn_A tt, rn_A le, rn_A li, rn_A rk, rn_A we, rn_A op, rn_A ca, rn_A mk, rn_B wd, rn_B wn, rn_A pc, rn_A ph, rn_A pa, rn_A pe, rn_A pt, rn_A tp, rn_A ac, rn_A sz, rn_A dw, rn_A st, rn_A ty, rn_A ed, rn_B ps, rn_A fr, rn_A sp, rn_A go, rn_A nz, rn_B pg, rn_B cf, rn_B ct, rn_A tk, rn_A en, rn_B ch, rn_A nw, rn_A tl) x := by
  subst hx
  have A := hT c
  refine ⟨pk_in c 32 hc, ?_⟩
  rw [rn_rA (by omega), rn_rA (by omega)]
  exact ⟨vp_in_nI A (by omega), h⟩
/-- on one edge -/
theorem rx_gp (post : Int32 → Prop) {c a : Nat} {x y : Int32} (hx : x = nI c) (hy : y = nI a) (I : (rq_L ln fm tt le li rk we op mk wd wn pc ph pa pe pt se ls mo tp ac sz dw st ty ed fr sp go tk en ch ps pg cf ct la gr cr ne nl oe ol fl tl tn N)) (hc : c < 32) (ha : a < 32) (he : ed a = ed c) (h : post (ri_z ((fr a : Int) - sz (ty a) - 1 - fr c))) : wpX_gapTo post (nI tn, rn_A ln, rn_A fm, rn_A tt, rn_A le, rn_A li, rn_A rk, rn_A we, rn_A op, rn_A ca, rn_A mk, rn_B wd, rn_B wn, rn_A pc, rn_A ph, rn_A pa, rn_A pe, rn_A pt, rn_A tp, rn_A ac, rn_A sz, rn_A dw, rn_A st, rn_A ty, rn_A ed, rn_B ps, rn_A fr, rn_A sp, rn_A go, rn_A nz, rn_B pg, rn_B cf, rn_B ct, rn_A tk, rn_A en, rn_B ch, rn_A nw, rn_A tl) x y := by
  subst hx hy
  have A := rI_c I c
  have B := rI_c I a
  refine ⟨pk_in c 32 hc, nm_r (rn_rA (by omega)) ⟨pk_in a 32 ha, ?_⟩⟩
  refine ek_f (rn_e (rn_rA (by omega)) (b := ed c) rfl (by omega) (by omega)) (fun _ => ⟨pk_in a 32 ha, ?_⟩) (fun k => absurd he k)
  refine rx_sz _ rfl ha (fun c => (rI_c I c).2.1) ⟨pk_in c 32 hc, ?_⟩
  rw [rn_rA (by omega), rn_rA (by omega), Int32.add_zero, ri_n, ri_n, ri_n, ri_sub, show (1 : Int32) = ri_z 1 from ri_n 1, ri_sub, ri_sub]
  exact h
theorem rx_gq (post : Int32 → Prop) {c a : Nat} {x y : Int32} (hx : x = nI c) (hy : y = nI a) (I : (rq_L ln fm tt le li rk we op mk wd wn pc ph pa pe pt se ls mo tp ac sz dw st ty ed fr sp go tk en ch ps pg cf ct la gr cr ne nl oe ol fl tl tn N)) (hc : c < 32) (ha : a < 32) (he : ed a ≠ ed c) (h : post (ri_z ((fr a : Int) - sz (ty a) - 1 - fr c + le (ed c)))) : wpX_gapTo post (nI tn, rn_A ln, rn_A fm, rn_A tt, rn_A le, rn_A li, rn_A rk, rn_A we, rn_A op, rn_A ca, rn_A mk, rn_B wd, rn_B wn, rn_A pc, rn_A ph, rn_A pa, rn_A pe, rn_A pt, rn_A tp, rn_A ac, rn_A sz, rn_A dw, rn_A st, rn_A ty, rn_A ed, rn_B ps, rn_A fr, rn_A sp, rn_A go, rn_A nz, rn_B pg, rn_B cf, rn_B ct, rn_A tk, rn_A en, rn_B ch, rn_A nw, rn_A tl) x y := by
  subst hx hy
  have A := rI_c I c
  have B := rI_c I a
  have C := rI_e I (ed c)
  refine ⟨pk_in c 32 hc, nm_r (rn_rA (by omega)) ⟨pk_in a 32 ha, ?_⟩⟩
  refine ek_f (rn_e (rn_rA (by omega)) (b := ed c) rfl (by omega) (by omega)) (fun k => absurd k he) (fun _ => ⟨vp_in_nI (by omega) (by omega), pk_in a 32 ha, ?_⟩)
  refine rx_sz _ rfl ha (fun c => (rI_c I c).2.1) ⟨pk_in c 32 hc, ?_⟩
  rw [rn_rA (by omega), rn_rA (by omega), rn_rA (by omega), ri_n, ri_n, ri_n, ri_n, ri_sub, show (1 : Int32) = ri_z 1 from ri_n 1, ri_sub, ri_sub, ri_add]
  exact h
theorem rx_gn (post : Int32 → Prop) {e : Nat} {x : Int32} (hx : x = nI e) (hE : (rq_E ln fm tt le li rk we op mk)) (hP : (rq_P pc ph pa pe pt se ls mo N)) (he : e < 16) (h : post (rb_ ((rq_gn tt pc ph pe) e))) : wpX_isGreen post (nI tn, rn_A ln, rn_A fm, rn_A tt, rn_A le, rn_A li, rn_A rk, rn_A we, rn_A op, rn_A ca, rn_A mk, rn_B wd, rn_B wn, rn_A pc, rn_A ph, rn_A pa, rn_A pe, rn_A pt, rn_A tp, rn_A ac, rn_A sz, rn_A dw, rn_A st, rn_A ty, rn_A ed, rn_B ps, rn_A fr, rn_A sp, rn_A go, rn_A nz, rn_B pg, rn_B cf, rn_B ct, rn_A tk, rn_A en, rn_B ch, rn_A nw, rn_A tl) x := by
  subst hx
  have A := hE.1 e
  obtain ⟨p1, p2, p3, p4, p5⟩ := hP (tt e) (by omega)
  refine ⟨pk_in e 16 he, nm_r (rn_rA (by omega)) ⟨vp_in_nI (by omega) (by omega), ?_⟩⟩
  refine ek_f (rn_e (rn_rA (by omega)) (b := 0) rfl (by omega) (by omega)) (fun k => rb_p1 h (Or.inl k)) (fun k => ⟨vp_in_nI (by omega) (by omega), ?_⟩)
  have q := p3 (by omega)
  have r := p5 _ q
  rw [rn_rA (by omega), show (4 : Int32) * nI (tt e) = nI (4 * tt e) from pk_mul 4 _, nI_add, rn_rA (by omega)]
  exact ⟨vp_in_nI (by omega) (by omega), ek_f (rd_bt1 (by omega) (by omega)) (fun k2 => rb_p1 h (Or.inr k2)) (fun k2 => rb_p0 h (fun w => w.elim k k2))⟩
theorem rx_my (post : Int32 → Prop) {c : Nat} {x : Int32} (hx : x = nI c) (I : (rq_L ln fm tt le li rk we op mk wd wn pc ph pa pe pt se ls mo tp ac sz dw st ty ed fr sp go tk en ch ps pg cf ct la gr cr ne nl oe ol fl tl tn N)) (hc : c < 32) (h : post (rb_ ((rq_may pg ch) N c))) : wpX_mayChange post (nI tn, rn_A ln, rn_A fm, rn_A tt, rn_A le, rn_A li, rn_A rk, rn_A we, rn_A op, rn_A ca, rn_A mk, rn_B wd, rn_B wn, rn_A pc, rn_A ph, rn_A pa, rn_A pe, rn_A pt, rn_A tp, rn_A ac, rn_A sz, rn_A dw, rn_A st, rn_A ty, rn_A ed, rn_B ps, rn_A fr, rn_A sp, rn_A go, rn_A nz, rn_B pg, rn_B cf, rn_B ct, rn_A tk, rn_A en, rn_B ch, rn_A nw, rn_A tl) x := by
  subst hx
  have A := rI_c I c
  have B := rI_p I hc
  have C := I.2.2.2.2.2
  refine ⟨pk_in c 32 hc, ?_⟩
  refine ek_f (rn_2 (rn_rB (by omega)) (b := 0) rfl (by omega) (by omega)) (fun e1 => ⟨pk_in c 32 hc, ?_⟩) (fun e1 => rb_p0 h (fun w => e1 w.1))
  refine ek_f (rn_2 (rn_rB (by omega)) (b := 0) rfl (by omega) (by omega)) (fun e2 => rb_p1 h ⟨e1, Or.inl e2⟩) (fun e2 => ⟨pk_in c 32 hc, ?_⟩)
  have v : rn_A tl 0 - rn_B ch (nI c).toNatClampNeg = ri_z ((N : Int) - ((ch c : Int) - 1)) := by
    rw [rn_rB (by omega), rn_cz, if_neg (by omega), show rn_A tl 0 = nI (tl 0) from rfl, C.1, ri_n, ri_sub]
  exact ek_f (ri_l v (b := 4) (ri_n 4) (by omega) (by omega)) (fun e3 => rb_p0 h (fun w => by have := w.2; omega)) (fun e3 => rb_p1 h ⟨e1, Or.inr (by omega)⟩)
end
