/-! the scans over the cars, X and Y -/
section
variable {ln fm tt le li rk we op ca mk wd wn fa pc ph pa pe pt se ls mo tp ac sz dw st ty ed fr sp go nz tk en ch nw ps pg cf ct la gr cr ne nl oe ol fl tl : Nat → Nat} {tn kn N : Nat} {th : Int32} {gp fs : Nat → Int32}
theorem rx_nb (post : Int32 → Prop) {s p : Nat} {x y : Int32} (hx : x = nI s) (hy : y = nI p) (hs : s < 1000) (hp : p < 2147483648) (hB : ∀ c, c < 32 → ps c ≤ 32) (hF : ∀ c, fr c ≤ 400) (h : post (rn_c ((rd_nr ps fr) (s + 1) p 32))) : wpX_nearestBeyond post (nI tn, rn_A ln, rn_A fm, rn_A tt, rn_A le, rn_A li, rn_A rk, rn_A we, rn_A op, rn_A ca, rn_A mk, rn_B wd, rn_B wn, rn_A pc, rn_A ph, rn_A pa, rn_A pe, rn_A pt, rn_A tp, rn_A ac, rn_A sz, rn_A dw, rn_A st, rn_A ty, rn_A ed, rn_B ps, rn_A fr, rn_A sp, rn_A go, rn_A nz, rn_B pg, rn_B cf, rn_B ct, rn_A tk, rn_A en, rn_B ch, rn_A nw, rn_A tl) x y := by
  subst hx hy
  refine loop_0 (fun n i (b : Nat) => wX_nearestBeyond_6 post (nI s) (nI p) (nI tn) (rn_A ln) (rn_A fm) (rn_A tt) (rn_A le) (rn_A li) (rn_A rk) (rn_A we) (rn_A op) (rn_A ca) (rn_A mk) (rn_B wd) (rn_B wn) (rn_A pc) (rn_A ph) (rn_A pa) (rn_A pe) (rn_A pt) (rn_A tp) (rn_A ac) (rn_A sz) (rn_A dw) (rn_A st) (rn_A ty) (rn_A ed) (rn_B ps) (rn_A fr) (rn_A sp) (rn_A go) (rn_A nz) (rn_B pg) (rn_B cf) (rn_B ct) (rn_A tk) (rn_A en) (rn_B ch) (rn_A nw) (rn_A tl) n (rn_c b) (nI i)) (fun i b => b = (rd_nr ps fr) (s + 1) p i) 32 0 rfl ?_ ?_
  · intro n b e; subst e
    exact br_t (by decide) h
  · intro n i b hi e ih; subst e
    have L := rd_nrL (ps := ps) (fr := fr) (s := s + 1) (p := p) i
    have F1 := hF i
    have F2 := hF ((rd_nr ps fr) (s + 1) p i - 1)
    have B1 := hB i hi
    refine pk_le 32 i (fun z => by omega) (fun _ => ⟨pk_in i 32 hi, ?_⟩)
    refine ek_f (rn_2 (rn_rB (by omega)) (b := s + 1) rfl (by omega) (by omega)) (fun e1 => ⟨pk_in i 32 hi, ?_⟩) (fun e1 => nm_r (nI_1 i) (ih _ (rd_nrQ (by omega)).symm))
    refine pk_le (fr i) p (fun z => nm_r (nI_1 i) (ih _ (rd_nrQ (by omega)).symm)) (fun z => ?_) (rn_rA (by omega))
    refine ek_f (rn_c2 (n := (rd_nr ps fr) (s + 1) p i) (by omega)) (fun e2 => nm_r (nI_1 i) (ih (i + 1) (rd_nrP (by omega)).symm)) (fun e2 => ⟨pk_in i 32 hi, rn_ic (by omega) (by omega) (by omega), ?_⟩)
    exact pk_le _ (fr i) (fun y => nm_r (nI_1 i) (ih _ (rd_nrQ (by omega)).symm)) (fun y => nm_r (nI_1 i) (ih (i + 1) (rd_nrP (by omega)).symm)) (rn_Ac (by omega) (by omega)) (rn_rA (by omega))
theorem rx_nu (post : Int32 → Prop) {s p : Nat} {x y : Int32} (hx : x = nI s) (hy : y = nI p) (hs : s < 1000) (hp : p < 2147483648) (hB : ∀ c, c < 32 → ps c ≤ 32) (hF : ∀ c, fr c ≤ 400) (h : post (rn_c ((rd_nu ps fr) (s + 1) p 32))) : wpX_nearestUpTo post (nI tn, rn_A ln, rn_A fm, rn_A tt, rn_A le, rn_A li, rn_A rk, rn_A we, rn_A op, rn_A ca, rn_A mk, rn_B wd, rn_B wn, rn_A pc, rn_A ph, rn_A pa, rn_A pe, rn_A pt, rn_A tp, rn_A ac, rn_A sz, rn_A dw, rn_A st, rn_A ty, rn_A ed, rn_B ps, rn_A fr, rn_A sp, rn_A go, rn_A nz, rn_B pg, rn_B cf, rn_B ct, rn_A tk, rn_A en, rn_B ch, rn_A nw, rn_A tl) x y := by
  subst hx hy
  refine loop_0 (fun n i (b : Nat) => wX_nearestUpTo_6 post (nI s) (nI p) (nI tn) (rn_A ln) (rn_A fm) (rn_A tt) (rn_A le) (rn_A li) (rn_A rk) (rn_A we) (rn_A op) (rn_A ca) (rn_A mk) (rn_B wd) (rn_B wn) (rn_A pc) (rn_A ph) (rn_A pa) (rn_A pe) (rn_A pt) (rn_A tp) (rn_A ac) (rn_A sz) (rn_A dw) (rn_A st) (rn_A ty) (rn_A ed) (rn_B ps) (rn_A fr) (rn_A sp) (rn_A go) (rn_A nz) (rn_B pg) (rn_B cf) (rn_B ct) (rn_A tk) (rn_A en) (rn_B ch) (rn_A nw) (rn_A tl) n (rn_c b) (nI i)) (fun i b => b = (rd_nu ps fr) (s + 1) p i) 32 0 rfl ?_ ?_
  · intro n b e; subst e
    exact br_t (by decide) h
  · intro n i b hi e ih; subst e
    have L := rd_nuL (ps := ps) (fr := fr) (s := s + 1) (p := p) i
    have F1 := hF i
    have F2 := hF ((rd_nu ps fr) (s + 1) p i - 1)
    have B1 := hB i hi
    refine pk_le 32 i (fun z => by omega) (fun _ => ⟨pk_in i 32 hi, ?_⟩)
    refine ek_f (rn_2 (rn_rB (by omega)) (b := s + 1) rfl (by omega) (by omega)) (fun e1 => ⟨pk_in i 32 hi, ?_⟩) (fun e1 => nm_r (nI_1 i) (ih _ (rd_nuQ (by omega)).symm))
    refine pk_lt p (fr i) (fun z => nm_r (nI_1 i) (ih _ (rd_nuQ (by omega)).symm)) (fun z => ?_) rfl (rn_rA (by omega))
    refine ek_f (rn_c2 (n := (rd_nu ps fr) (s + 1) p i) (by omega)) (fun e2 => nm_r (nI_1 i) (ih (i + 1) (rd_nuP (by omega)).symm)) (fun e2 => ⟨pk_in i 32 hi, rn_ic (by omega) (by omega) (by omega), ?_⟩)
    exact pk_le (fr i) _ (fun y => nm_r (nI_1 i) (ih _ (rd_nuQ (by omega)).symm)) (fun y => nm_r (nI_1 i) (ih (i + 1) (rd_nuP (by omega)).symm)) (rn_rA (by omega)) (rn_Ac (by omega) (by omega))
theorem rx_fw (post : Int32 → Prop) {e : Nat} {x : Int32} (hx : x = nI e) (he : e < 16) (hS : ∀ c, st c ≤ 2) (hE : ∀ c, ed c < 16) (hF : ∀ c, tk c ≤ 5000) (h : post (rn_c (rd_fw st ed tk e 32))) : wpX_firstWaiting post (nI tn, rn_A ln, rn_A fm, rn_A tt, rn_A le, rn_A li, rn_A rk, rn_A we, rn_A op, rn_A ca, rn_A mk, rn_B wd, rn_B wn, rn_A pc, rn_A ph, rn_A pa, rn_A pe, rn_A pt, rn_A tp, rn_A ac, rn_A sz, rn_A dw, rn_A st, rn_A ty, rn_A ed, rn_B ps, rn_A fr, rn_A sp, rn_A go, rn_A nz, rn_B pg, rn_B cf, rn_B ct, rn_A tk, rn_A en, rn_B ch, rn_A nw, rn_A tl) x := by
  subst hx
  refine loop_0 (fun n i (b : Nat) => wX_firstWaiting_5 post (nI e) (nI tn) (rn_A ln) (rn_A fm) (rn_A tt) (rn_A le) (rn_A li) (rn_A rk) (rn_A we) (rn_A op) (rn_A ca) (rn_A mk) (rn_B wd) (rn_B wn) (rn_A pc) (rn_A ph) (rn_A pa) (rn_A pe) (rn_A pt) (rn_A tp) (rn_A ac) (rn_A sz) (rn_A dw) (rn_A st) (rn_A ty) (rn_A ed) (rn_B ps) (rn_A fr) (rn_A sp) (rn_A go) (rn_A nz) (rn_B pg) (rn_B cf) (rn_B ct) (rn_A tk) (rn_A en) (rn_B ch) (rn_A nw) (rn_A tl) n (rn_c b) (nI i)) (fun i b => b = rd_fw st ed tk e i) 32 0 rfl ?_ ?_
  · intro n b e; subst e
    exact br_t (by decide) h
  · intro n i b hi e0 ih; subst e0
    have L := rd_fwL (st := st) (ed := ed) (tk := tk) (e := e) i
    have F1 := hF i
    have F2 := hF (rd_fw st ed tk e i - 1)
    have B1 := hS i
    have B2 := hE i
    refine pk_le 32 i (fun z => by omega) (fun _ => ⟨pk_in i 32 hi, ?_⟩)
    refine ek_f (rn_e (rn_rA (by omega)) (b := 1) rfl (by omega) (by omega)) (fun e1 => ⟨pk_in i 32 hi, ?_⟩) (fun e1 => nm_r (nI_1 i) (ih _ (rd_fwQ (by omega)).symm))
    refine ek_f (rn_e (rn_rA (by omega)) (b := e) rfl (by omega) (by omega)) (fun e2 => ?_) (fun e2 => nm_r (nI_1 i) (ih _ (rd_fwQ (by omega)).symm))
    refine ek_f (rn_c2 (n := rd_fw st ed tk e i) (by omega)) (fun e3 => nm_r (nI_1 i) (ih (i + 1) (rd_fwP (by omega)).symm)) (fun e3 => ⟨pk_in i 32 hi, rn_ic (by omega) (by omega) (by omega), ?_⟩)
    exact pk_le _ (tk i) (fun y => nm_r (nI_1 i) (ih _ (rd_fwQ (by omega)).symm)) (fun y => nm_r (nI_1 i) (ih (i + 1) (rd_fwP (by omega)).symm)) (rn_Ac (by omega) (by omega)) (rn_rA (by omega))
theorem rx_gt (post : Int32 → Prop) {s : Nat} {x : Int32} (hx : x = nI s) (hs : s < 1000) (hB : ∀ c, c < 32 → pg c ≤ 32) (h : post (rb_ (∃ c, c < 32 ∧ pg c = s + 1))) : wpX_isGranted post (nI tn, rn_A ln, rn_A fm, rn_A tt, rn_A le, rn_A li, rn_A rk, rn_A we, rn_A op, rn_A ca, rn_A mk, rn_B wd, rn_B wn, rn_A pc, rn_A ph, rn_A pa, rn_A pe, rn_A pt, rn_A tp, rn_A ac, rn_A sz, rn_A dw, rn_A st, rn_A ty, rn_A ed, rn_B ps, rn_A fr, rn_A sp, rn_A go, rn_A nz, rn_B pg, rn_B cf, rn_B ct, rn_A tk, rn_A en, rn_B ch, rn_A nw, rn_A tl) x := by
  subst hx
  refine loop_0 (fun n i (_ : Unit) => wX_isGranted_2 post (nI s) (nI tn) (rn_A ln) (rn_A fm) (rn_A tt) (rn_A le) (rn_A li) (rn_A rk) (rn_A we) (rn_A op) (rn_A ca) (rn_A mk) (rn_B wd) (rn_B wn) (rn_A pc) (rn_A ph) (rn_A pa) (rn_A pe) (rn_A pt) (rn_A tp) (rn_A ac) (rn_A sz) (rn_A dw) (rn_A st) (rn_A ty) (rn_A ed) (rn_B ps) (rn_A fr) (rn_A sp) (rn_A go) (rn_A nz) (rn_B pg) (rn_B cf) (rn_B ct) (rn_A tk) (rn_A en) (rn_B ch) (rn_A nw) (rn_A tl) n (nI i)) (fun i _ => ∀ c, c < i → ¬ pg c = s + 1) 32 () (fun c hc => absurd hc (Nat.not_lt_zero c)) ?_ ?_
  · intro n _ e
    rw [rb_f (fun ⟨c, hc, k⟩ => e c hc k)] at h
    exact br_t (by decide) h
  · intro n i _ hi e ih
    have B1 := hB i hi
    refine pk_le 32 i (fun z => by omega) (fun _ => ⟨pk_in i 32 hi, ?_⟩)
    refine ek_f (rn_2 (rn_rB (by omega)) (b := s + 1) rfl (by omega) (by omega)) (fun e1 => ?_) (fun e1 => nm_r (nI_1 i) (ih () (lt_s e e1)))
    exact rb_p1 h ⟨i, hi, e1⟩
theorem rx_any (post : Int32 → Prop) (hS : ∀ c, st c ≤ 2) (h : post (rb_ (∃ c, c < 32 ∧ st c ≠ 0))) : wpX_isAnyCarThere post (nI tn, rn_A ln, rn_A fm, rn_A tt, rn_A le, rn_A li, rn_A rk, rn_A we, rn_A op, rn_A ca, rn_A mk, rn_B wd, rn_B wn, rn_A pc, rn_A ph, rn_A pa, rn_A pe, rn_A pt, rn_A tp, rn_A ac, rn_A sz, rn_A dw, rn_A st, rn_A ty, rn_A ed, rn_B ps, rn_A fr, rn_A sp, rn_A go, rn_A nz, rn_B pg, rn_B cf, rn_B ct, rn_A tk, rn_A en, rn_B ch, rn_A nw, rn_A tl) := by
  refine loop_0 (fun n i (_ : Unit) => wX_isAnyCarThere_2 post (nI tn) (rn_A ln) (rn_A fm) (rn_A tt) (rn_A le) (rn_A li) (rn_A rk) (rn_A we) (rn_A op) (rn_A ca) (rn_A mk) (rn_B wd) (rn_B wn) (rn_A pc) (rn_A ph) (rn_A pa) (rn_A pe) (rn_A pt) (rn_A tp) (rn_A ac) (rn_A sz) (rn_A dw) (rn_A st) (rn_A ty) (rn_A ed) (rn_B ps) (rn_A fr) (rn_A sp) (rn_A go) (rn_A nz) (rn_B pg) (rn_B cf) (rn_B ct) (rn_A tk) (rn_A en) (rn_B ch) (rn_A nw) (rn_A tl) n (nI i)) (fun i _ => ∀ c, c < i → ¬ st c ≠ 0) 32 () (fun c hc => absurd hc (Nat.not_lt_zero c)) ?_ ?_
  · intro n _ e
    rw [rb_f (fun ⟨c, hc, k⟩ => e c hc k)] at h
    exact br_t (by decide) h
  · intro n i _ hi e ih
    have B1 := hS i
    refine pk_le 32 i (fun z => by omega) (fun _ => ⟨pk_in i 32 hi, ?_⟩)
    refine ek_f (rn_e (rn_rA (by omega)) (b := 0) rfl (by omega) (by omega)) (fun e1 => nm_r (nI_1 i) (ih () (lt_s e (fun k => k e1)))) (fun e1 => ?_)
    exact rb_p1 h ⟨i, hi, e1⟩
theorem rx_use (post : Int32 → Prop) {t : Nat} {x : Int32} (hx : x = nI t) (ht : t < 4) (hS : ∀ c, st c ≤ 2) (hT : ∀ c, ty c < 4) (h : post (rb_ (∃ c, c < 32 ∧ st c ≠ 0 ∧ ty c = t))) : wpX_isTypeInUse post (nI tn, rn_A ln, rn_A fm, rn_A tt, rn_A le, rn_A li, rn_A rk, rn_A we, rn_A op, rn_A ca, rn_A mk, rn_B wd, rn_B wn, rn_A pc, rn_A ph, rn_A pa, rn_A pe, rn_A pt, rn_A tp, rn_A ac, rn_A sz, rn_A dw, rn_A st, rn_A ty, rn_A ed, rn_B ps, rn_A fr, rn_A sp, rn_A go, rn_A nz, rn_B pg, rn_B cf, rn_B ct, rn_A tk, rn_A en, rn_B ch, rn_A nw, rn_A tl) x := by
  subst hx
  refine loop_0 (fun n i (_ : Unit) => wX_isTypeInUse_2 post (nI t) (nI tn) (rn_A ln) (rn_A fm) (rn_A tt) (rn_A le) (rn_A li) (rn_A rk) (rn_A we) (rn_A op) (rn_A ca) (rn_A mk) (rn_B wd) (rn_B wn) (rn_A pc) (rn_A ph) (rn_A pa) (rn_A pe) (rn_A pt) (rn_A tp) (rn_A ac) (rn_A sz) (rn_A dw) (rn_A st) (rn_A ty) (rn_A ed) (rn_B ps) (rn_A fr) (rn_A sp) (rn_A go) (rn_A nz) (rn_B pg) (rn_B cf) (rn_B ct) (rn_A tk) (rn_A en) (rn_B ch) (rn_A nw) (rn_A tl) n (nI i)) (fun i _ => ∀ c, c < i → ¬ (st c ≠ 0 ∧ ty c = t)) 32 () (fun c hc => absurd hc (Nat.not_lt_zero c)) ?_ ?_
  · intro n _ e
    rw [rb_f (fun ⟨c, hc, k⟩ => e c hc k)] at h
    exact br_t (by decide) h
  · intro n i _ hi e ih
    have B1 := hS i
    have B2 := hT i
    refine pk_le 32 i (fun z => by omega) (fun _ => ⟨pk_in i 32 hi, ?_⟩)
    refine ek_f (rn_e (rn_rA (by omega)) (b := 0) rfl (by omega) (by omega)) (fun e1 => nm_r (nI_1 i) (ih () (lt_s e (fun k => k.1 e1)))) (fun e1 => ⟨pk_in i 32 hi, ?_⟩)
    refine ek_f (rn_e (rn_rA (by omega)) (b := t) rfl (by omega) (by omega)) (fun e2 => ?_) (fun e2 => nm_r (nI_1 i) (ih () (lt_s e (fun k => e2 k.2))))
    exact rb_p1 h ⟨i, hi, e1, e2⟩
theorem rx_cb (post : Int32 → Prop) {s p : Nat} {x y : Int32} (hx : x = nI s) (hy : y = nI p) (hs : s < 1000) (hp : p < 2147483648) (hB : ∀ c, c < 32 → ps c ≤ 32) (hF : ∀ c, fr c ≤ 400) (h : post (nI (rd_cb ps fr (s + 1) p 32))) : wpX_countBeyond post (nI tn, rn_A ln, rn_A fm, rn_A tt, rn_A le, rn_A li, rn_A rk, rn_A we, rn_A op, rn_A ca, rn_A mk, rn_B wd, rn_B wn, rn_A pc, rn_A ph, rn_A pa, rn_A pe, rn_A pt, rn_A tp, rn_A ac, rn_A sz, rn_A dw, rn_A st, rn_A ty, rn_A ed, rn_B ps, rn_A fr, rn_A sp, rn_A go, rn_A nz, rn_B pg, rn_B cf, rn_B ct, rn_A tk, rn_A en, rn_B ch, rn_A nw, rn_A tl) x y := by
  subst hx hy
  refine loop_0 (fun n i (b : Nat) => wX_countBeyond_5 post (nI s) (nI p) (nI tn) (rn_A ln) (rn_A fm) (rn_A tt) (rn_A le) (rn_A li) (rn_A rk) (rn_A we) (rn_A op) (rn_A ca) (rn_A mk) (rn_B wd) (rn_B wn) (rn_A pc) (rn_A ph) (rn_A pa) (rn_A pe) (rn_A pt) (rn_A tp) (rn_A ac) (rn_A sz) (rn_A dw) (rn_A st) (rn_A ty) (rn_A ed) (rn_B ps) (rn_A fr) (rn_A sp) (rn_A go) (rn_A nz) (rn_B pg) (rn_B cf) (rn_B ct) (rn_A tk) (rn_A en) (rn_B ch) (rn_A nw) (rn_A tl) n (nI b) (nI i)) (fun i b => b = rd_cb ps fr (s + 1) p i) 32 0 rfl ?_ ?_
  · intro n b e; subst e
    exact br_t (by decide) h
  · intro n i b hi e ih; subst e
    have F1 := hF i
    have B1 := hB i hi
    refine pk_le 32 i (fun z => by omega) (fun _ => ⟨pk_in i 32 hi, ?_⟩)
    refine ek_f (rn_2 (rn_rB (by omega)) (b := s + 1) rfl (by omega) (by omega)) (fun e1 => ⟨pk_in i 32 hi, ?_⟩) (fun e1 => nm_r (nI_1 i) (ih _ (rd_cbQ (by omega)).symm))
    exact pk_le (fr i) p (fun z => nm_r (nI_1 i) (ih _ (rd_cbQ (by omega)).symm)) (fun z => nm_r (nI_1 _) (nm_r (nI_1 i) (ih _ (rd_cbP (by omega)).symm))) (rn_rA (by omega))
theorem rx_fo (post : Int32 → Prop) {e : Nat} {x y : Int32} (hy : y = nI e) (he : e < 16) (hS : ∀ c, st c ≤ 2) (hE : ∀ c, ed c < 16) (hF : ∀ c, fr c ≤ 400) (hB : ∀ c, c < 32 → ps c ≤ 32) (hP : ∀ c, c < 32 → st c = 2 → 0 < ps c) (h : post (rn_c (rd_fo st ed fr ps (bt x) e 32))) : wpX_foremostOf post (nI tn, rn_A ln, rn_A fm, rn_A tt, rn_A le, rn_A li, rn_A rk, rn_A we, rn_A op, rn_A ca, rn_A mk, rn_B wd, rn_B wn, rn_A pc, rn_A ph, rn_A pa, rn_A pe, rn_A pt, rn_A tp, rn_A ac, rn_A sz, rn_A dw, rn_A st, rn_A ty, rn_A ed, rn_B ps, rn_A fr, rn_A sp, rn_A go, rn_A nz, rn_B pg, rn_B cf, rn_B ct, rn_A tk, rn_A en, rn_B ch, rn_A nw, rn_A tl) y x := by
  subst hy
  refine loop_0 (fun n i (b : Nat) => wX_foremostOf_6 post (nI e) x (nI tn) (rn_A ln) (rn_A fm) (rn_A tt) (rn_A le) (rn_A li) (rn_A rk) (rn_A we) (rn_A op) (rn_A ca) (rn_A mk) (rn_B wd) (rn_B wn) (rn_A pc) (rn_A ph) (rn_A pa) (rn_A pe) (rn_A pt) (rn_A tp) (rn_A ac) (rn_A sz) (rn_A dw) (rn_A st) (rn_A ty) (rn_A ed) (rn_B ps) (rn_A fr) (rn_A sp) (rn_A go) (rn_A nz) (rn_B pg) (rn_B cf) (rn_B ct) (rn_A tk) (rn_A en) (rn_B ch) (rn_A nw) (rn_A tl) n (rn_c b) (nI i)) (fun i b => b = rd_fo st ed fr ps (bt x) e i) 32 0 rfl ?_ ?_
  · intro n b e; subst e
    exact br_t (by decide) h
  · intro n i b hi e0 ih; subst e0
    have L := rd_foL (st := st) (ed := ed) (fr := fr) (ps := ps) (dn := bt x) (e := e) i
    have F1 := hF i
    have F2 := hF (rd_fo st ed fr ps (bt x) e i - 1)
    have B1 := hS i
    have B2 := hE i
    have B3 := hB i hi
    refine pk_le 32 i (fun z => by omega) (fun _ => ⟨pk_in i 32 hi, ?_⟩)
    refine ek_f (rn_e (rn_rA (by omega)) (b := 2) rfl (by omega) (by omega)) (fun e1 => ⟨pk_in i 32 hi, ?_⟩) (fun e1 => nm_r (nI_1 i) (ih _ (rd_foQ (fun w => e1 w.1)).symm))
    refine ek_f (rn_e (rn_rA (by omega)) (b := e) rfl (by omega) (by omega)) (fun e2 => ?_) (fun e2 => nm_r (nI_1 i) (ih _ (rd_foQ (fun w => e2 w.2.1)).symm))
    refine ek_f (rd_st0 x hi) (fun e3 => ?_) (fun e3 => nm_r (nI_1 i) (ih _ (rd_foQ (fun w => e3 w.2.2.1)).symm))
    refine ek_f (rn_c2 (n := rd_fo st ed fr ps (bt x) e i) (by omega)) (fun e4 => nm_r (nI_1 i) (ih (i + 1) (rd_foP ⟨e1, e2, e3, Or.inl e4⟩).symm)) (fun e4 => ⟨pk_in i 32 hi, rn_ic (by omega) (by omega) (by omega), ?_⟩)
    have B4 := hB (rd_fo st ed fr ps (bt x) e i - 1) (by omega)
    have P1 := hP i hi e1
    have P2 : 0 < ps (rd_fo st ed fr ps (bt x) e i - 1) := by
      rcases rd_foS (st := st) (ed := ed) (fr := fr) (ps := ps) (dn := bt x) (e := e) i with ⟨k1, _⟩ | ⟨a, k1, k2, k3, _⟩
      · omega
      · rw [k1]; exact hP a (by omega) k3
    refine pk_lt _ (fr i) (fun y => nm_r (nI_1 i) (ih (i + 1) (rd_foP ⟨e1, e2, e3, Or.inr (Or.inl y)⟩).symm)) (fun y => ⟨pk_in i 32 hi, rn_ic (by omega) (by omega) (by omega), ?_⟩) (rn_Ac (by omega) (by omega)) (rn_rA (by omega))
    refine ek_f (rn_e (rn_rA (by omega)) (rn_Ac (by omega) (by omega)) (by omega) (by omega)) (fun e5 => ⟨pk_in i 32 hi, rn_ic (by omega) (by omega) (by omega), ?_⟩) (fun e5 => nm_r (nI_1 i) (ih _ (rd_foQ (fun w => by omega)).symm))
    exact pk_le (ps (rd_fo st ed fr ps (bt x) e i - 1) - 1) (ps i - 1) (fun q => nm_r (nI_1 i) (ih _ (rd_foQ (fun w => by omega)).symm)) (fun q => nm_r (nI_1 i) (ih (i + 1) (rd_foP ⟨e1, e2, e3, Or.inr (Or.inr ⟨e5, by omega⟩)⟩).symm)) (by rw [rn_Bc (by omega) (by omega), rn_cs P2]) (by rw [rn_rB (by omega), rn_cs P1])
/-! Y -/
theorem ry_on (post : Int32 → Prop) {c e l : Nat} {x y w : Int32} (hx : x = nI c) (hy : y = nI e) (hw : w = nI l) (hc : c < 32) (he : e < 1000) (hl : l < 1000) (hS : ∀ c, st c ≤ 2) (hE : ∀ c, ed c < 16) (hL : ∀ c, la c ≤ 1) (h : post (rb_ (st c = 2 ∧ ed c = e ∧ la c = l))) : wpY_isOn post (nI kn, nI tn, th, rn_T ln, rn_A op, rn_A fm, rn_A tt, rn_A le, rn_A ln, rn_A li, rn_A rk, rn_A we, rn_A ca, rn_A mk, rn_A fa, rn_A tp, rn_A ac, rn_A sz, rn_A dw, rn_A st, rn_A ty, rn_A ed, rn_A la, rn_A fr, rn_A sp, rn_A go, rn_A nz, rn_A tk, rn_C ch, rn_A en, rn_A nw, rn_A gr, rn_A cr, rn_A ne, rn_A nl, rn_A oe, rn_A ol, rn_A fl, rn_A pc, rn_A ph, rn_A pa, rn_A se, rn_A ls, rn_A mo, rn_A tl, gp, fs) x y w := by
  subst hx hy hw
  have B1 := hS c
  have B2 := hE c
  have B3 := hL c
  refine ⟨pk_in c 32 hc, ?_⟩
  refine ek_f (rn_e (rn_rA (by omega)) (b := 2) rfl (by omega) (by omega)) (fun e1 => ⟨pk_in c 32 hc, ?_⟩) (fun e1 => rb_p0 h (fun w => e1 w.1))
  refine ek_f (rn_e (rn_rA (by omega)) (b := e) rfl (by omega) (by omega)) (fun e2 => ⟨pk_in c 32 hc, ?_⟩) (fun e2 => rb_p0 h (fun w => e2 w.2.1))
  refine ek_f (rn_e (rn_rA (by omega)) (b := l) rfl (by omega) (by omega)) (fun e3 => rb_p1 h ⟨e1, e2, e3⟩) (fun e3 => rb_p0 h (fun w => e3 w.2.2))
/-- ON this lane, by the spot -/
def rq_on (st ed la ps : Nat → Nat) : Prop := (∀ c, st c ≤ 2 ∧ ed c < 16 ∧ la c ≤ 1) ∧ ∀ c, c < 32 → (st c = 2 → ps c = 2 * ed c + la c + 1) ∧ (st c ≠ 2 → ps c = 0)
theorem rq_onI (h : rq_on st ed la ps) {c e l : Nat} (hc : c < 32) (hl : l ≤ 1) : (st c = 2 ∧ ed c = e ∧ la c = l) ↔ ps c = 2 * e + l + 1 := by
  obtain ⟨h1, h2⟩ := h
  have a := h1 c
  obtain ⟨b1, b2⟩ := h2 c hc
  rcases Nat.decEq (st c) 2 with z | z
  · have := b2 z
    constructor <;> intro w <;> omega
  · have := b1 z
    constructor <;> intro w <;> omega
theorem ry_on' (post : Int32 → Prop) {c e l : Nat} (hc : c < 32) (he : e < 1000) (hl : l ≤ 1) (hO : rq_on st ed la ps) (h : post (rb_ (ps c = 2 * e + l + 1))) : wpY_isOn post (nI kn, nI tn, th, rn_T ln, rn_A op, rn_A fm, rn_A tt, rn_A le, rn_A ln, rn_A li, rn_A rk, rn_A we, rn_A ca, rn_A mk, rn_A fa, rn_A tp, rn_A ac, rn_A sz, rn_A dw, rn_A st, rn_A ty, rn_A ed, rn_A la, rn_A fr, rn_A sp, rn_A go, rn_A nz, rn_A tk, rn_C ch, rn_A en, rn_A nw, rn_A gr, rn_A cr, rn_A ne, rn_A nl, rn_A oe, rn_A ol, rn_A fl, rn_A pc, rn_A ph, rn_A pa, rn_A se, rn_A ls, rn_A mo, rn_A tl, gp, fs) (nI c) (nI e) (nI l) :=
  ry_on post rfl rfl rfl hc he (by omega) (fun c => (hO.1 c).1) (fun c => (hO.1 c).2.1) (fun c => (hO.1 c).2.2) (by rw [rb_e (rq_onI hO hc hl)]; exact h)
theorem ry_ab (post : Int32 → Prop) {e l p : Nat} {x y w : Int32} (hx : x = nI e) (hy : y = nI l) (hw : w = nI p) (he : e < 1000) (hl : l ≤ 1) (hp : p < 2147483648) (hO : rq_on st ed la ps) (hF : ∀ c, fr c ≤ 400) (h : post (rn_y ((rd_nr ps fr) (2 * e + l + 1) p 32))) : wpY_above post (nI kn, nI tn, th, rn_T ln, rn_A op, rn_A fm, rn_A tt, rn_A le, rn_A ln, rn_A li, rn_A rk, rn_A we, rn_A ca, rn_A mk, rn_A fa, rn_A tp, rn_A ac, rn_A sz, rn_A dw, rn_A st, rn_A ty, rn_A ed, rn_A la, rn_A fr, rn_A sp, rn_A go, rn_A nz, rn_A tk, rn_C ch, rn_A en, rn_A nw, rn_A gr, rn_A cr, rn_A ne, rn_A nl, rn_A oe, rn_A ol, rn_A fl, rn_A pc, rn_A ph, rn_A pa, rn_A se, rn_A ls, rn_A mo, rn_A tl, gp, fs) x y w := by
  subst hx hy hw
  refine loop_0 (fun n i (b : Nat) => wY_above_6 post (nI e) (nI l) (nI p) (nI kn) (nI tn) th (rn_T ln) (rn_A op) (rn_A fm) (rn_A tt) (rn_A le) (rn_A ln) (rn_A li) (rn_A rk) (rn_A we) (rn_A ca) (rn_A mk) (rn_A fa) (rn_A tp) (rn_A ac) (rn_A sz) (rn_A dw) (rn_A st) (rn_A ty) (rn_A ed) (rn_A la) (rn_A fr) (rn_A sp) (rn_A go) (rn_A nz) (rn_A tk) (rn_C ch) (rn_A en) (rn_A nw) (rn_A gr) (rn_A cr) (rn_A ne) (rn_A nl) (rn_A oe) (rn_A ol) (rn_A fl) (rn_A pc) (rn_A ph) (rn_A pa) (rn_A se) (rn_A ls) (rn_A mo) (rn_A tl) gp fs n (rn_y b) (nI i)) (fun i b => b = (rd_nr ps fr) (2 * e + l + 1) p i) 32 0 rfl ?_ ?_
  · intro n b e; subst e
    exact br_t (by decide) h
  · intro n i b hi e0 ih; subst e0
    have L := rd_nrL (ps := ps) (fr := fr) (s := 2 * e + l + 1) (p := p) i
    have F1 := hF i
    have F2 := hF ((rd_nr ps fr) (2 * e + l + 1) p i - 1)
    refine pk_le 32 i (fun z => by omega) (fun _ => ry_on' _ hi he hl hO ?_)
    refine rb_b (fun e1 => nm_r (nI_1 i) (ih _ (rd_nrQ (by omega)).symm)) (fun e1 => ⟨pk_in i 32 hi, ?_⟩)
    refine pk_le (fr i) p (fun z => nm_r (nI_1 i) (ih _ (rd_nrQ (by omega)).symm)) (fun z => ?_) (rn_rA (by omega))
    refine ek_f (rn_yn (n := (rd_nr ps fr) (2 * e + l + 1) p i) (by omega)) (fun e2 => nm_r (nI_1 i) (ih (i + 1) (rd_nrP (by omega)).symm)) (fun e2 => ⟨pk_in i 32 hi, rn_iy (by omega) (by omega) (by omega), ?_⟩)
    exact pk_le _ (fr i) (fun y => nm_r (nI_1 i) (ih _ (rd_nrQ (by omega)).symm)) (fun y => nm_r (nI_1 i) (ih (i + 1) (rd_nrP (by omega)).symm)) (rn_Ay (by omega) (by omega)) (rn_rA (by omega))
/-- x: none, or a car of another lane -/
theorem ry_nu (post : Int32 → Prop) {e l p : Nat} {x y w v : Int32} (hy : y = nI e) (hw : w = nI l) (hv : v = nI p) (he : e < 1000) (hl : l ≤ 1) (hp : p < 2147483648) (hO : rq_on st ed la ps) (hF : ∀ c, fr c ≤ 400) (hx : ∀ i, i < 32 → nI i = x → ps i ≠ 2 * e + l + 1) (h : post (rn_y ((rd_nu ps fr) (2 * e + l + 1) p 32))) : wpY_notAbove post (nI kn, nI tn, th, rn_T ln, rn_A op, rn_A fm, rn_A tt, rn_A le, rn_A ln, rn_A li, rn_A rk, rn_A we, rn_A ca, rn_A mk, rn_A fa, rn_A tp, rn_A ac, rn_A sz, rn_A dw, rn_A st, rn_A ty, rn_A ed, rn_A la, rn_A fr, rn_A sp, rn_A go, rn_A nz, rn_A tk, rn_C ch, rn_A en, rn_A nw, rn_A gr, rn_A cr, rn_A ne, rn_A nl, rn_A oe, rn_A ol, rn_A fl, rn_A pc, rn_A ph, rn_A pa, rn_A se, rn_A ls, rn_A mo, rn_A tl, gp, fs) y w v x := by
  subst hy hw hv
  refine loop_0 (fun n i (b : Nat) => wY_notAbove_6 post (nI e) (nI l) (nI p) x (nI kn) (nI tn) th (rn_T ln) (rn_A op) (rn_A fm) (rn_A tt) (rn_A le) (rn_A ln) (rn_A li) (rn_A rk) (rn_A we) (rn_A ca) (rn_A mk) (rn_A fa) (rn_A tp) (rn_A ac) (rn_A sz) (rn_A dw) (rn_A st) (rn_A ty) (rn_A ed) (rn_A la) (rn_A fr) (rn_A sp) (rn_A go) (rn_A nz) (rn_A tk) (rn_C ch) (rn_A en) (rn_A nw) (rn_A gr) (rn_A cr) (rn_A ne) (rn_A nl) (rn_A oe) (rn_A ol) (rn_A fl) (rn_A pc) (rn_A ph) (rn_A pa) (rn_A se) (rn_A ls) (rn_A mo) (rn_A tl) gp fs n (rn_y b) (nI i)) (fun i b => b = (rd_nu ps fr) (2 * e + l + 1) p i) 32 0 rfl ?_ ?_
  · intro n b e; subst e
    exact br_t (by decide) h
  · intro n i b hi e0 ih; subst e0
    have L := rd_nuL (ps := ps) (fr := fr) (s := 2 * e + l + 1) (p := p) i
    have F1 := hF i
    have F2 := hF ((rd_nu ps fr) (2 * e + l + 1) p i - 1)
    refine pk_le 32 i (fun z => by omega) (fun _ => br_c (fun e1 => nm_r (nI_1 i) (ih _ (rd_nuQ (fun w => hx i hi e1 w.1)).symm)) (fun _ => ry_on' _ hi he hl hO ?_))
    refine rb_b (fun e1 => nm_r (nI_1 i) (ih _ (rd_nuQ (by omega)).symm)) (fun e1 => ⟨pk_in i 32 hi, ?_⟩)
    refine pk_lt p (fr i) (fun z => nm_r (nI_1 i) (ih _ (rd_nuQ (by omega)).symm)) (fun z => ?_) rfl (rn_rA (by omega))
    refine ek_f (rn_yn (n := (rd_nu ps fr) (2 * e + l + 1) p i) (by omega)) (fun e2 => nm_r (nI_1 i) (ih (i + 1) (rd_nuP (by omega)).symm)) (fun e2 => ⟨pk_in i 32 hi, rn_iy (by omega) (by omega) (by omega), ?_⟩)
    exact pk_le (fr i) _ (fun y => nm_r (nI_1 i) (ih _ (rd_nuQ (by omega)).symm)) (fun y => nm_r (nI_1 i) (ih (i + 1) (rd_nuP (by omega)).symm)) (rn_rA (by omega)) (rn_Ay (by omega) (by omega))
theorem ry_fw (post : Int32 → Prop) {e : Nat} {x : Int32} (hx : x = nI e) (he : e < 16) (hS : ∀ c, st c ≤ 2) (hE : ∀ c, ed c < 16) (hF : ∀ c, tk c ≤ 5000) (h : post (rn_y (rd_fw st ed tk e 32))) : wpY_firstWaiting post (nI kn, nI tn, th, rn_T ln, rn_A op, rn_A fm, rn_A tt, rn_A le, rn_A ln, rn_A li, rn_A rk, rn_A we, rn_A ca, rn_A mk, rn_A fa, rn_A tp, rn_A ac, rn_A sz, rn_A dw, rn_A st, rn_A ty, rn_A ed, rn_A la, rn_A fr, rn_A sp, rn_A go, rn_A nz, rn_A tk, rn_C ch, rn_A en, rn_A nw, rn_A gr, rn_A cr, rn_A ne, rn_A nl, rn_A oe, rn_A ol, rn_A fl, rn_A pc, rn_A ph, rn_A pa, rn_A se, rn_A ls, rn_A mo, rn_A tl, gp, fs) x := by
  subst hx
  refine loop_0 (fun n i (b : Nat) => wY_firstWaiting_4 post (nI e) (nI kn) (nI tn) th (rn_T ln) (rn_A op) (rn_A fm) (rn_A tt) (rn_A le) (rn_A ln) (rn_A li) (rn_A rk) (rn_A we) (rn_A ca) (rn_A mk) (rn_A fa) (rn_A tp) (rn_A ac) (rn_A sz) (rn_A dw) (rn_A st) (rn_A ty) (rn_A ed) (rn_A la) (rn_A fr) (rn_A sp) (rn_A go) (rn_A nz) (rn_A tk) (rn_C ch) (rn_A en) (rn_A nw) (rn_A gr) (rn_A cr) (rn_A ne) (rn_A nl) (rn_A oe) (rn_A ol) (rn_A fl) (rn_A pc) (rn_A ph) (rn_A pa) (rn_A se) (rn_A ls) (rn_A mo) (rn_A tl) gp fs n (rn_y b) (nI i)) (fun i b => b = rd_fw st ed tk e i) 32 0 rfl ?_ ?_
  · intro n b e; subst e
    exact br_t (by decide) h
  · intro n i b hi e0 ih; subst e0
    have L := rd_fwL (st := st) (ed := ed) (tk := tk) (e := e) i
    have F1 := hF i
    have F2 := hF (rd_fw st ed tk e i - 1)
    have B1 := hS i
    have B2 := hE i
    refine pk_le 32 i (fun z => by omega) (fun _ => ⟨pk_in i 32 hi, ?_⟩)
    refine ek_f (rn_e (rn_rA (by omega)) (b := 1) rfl (by omega) (by omega)) (fun e1 => ⟨pk_in i 32 hi, ?_⟩) (fun e1 => nm_r (nI_1 i) (ih _ (rd_fwQ (by omega)).symm))
    refine ek_f (rn_e (rn_rA (by omega)) (b := e) rfl (by omega) (by omega)) (fun e2 => ?_) (fun e2 => nm_r (nI_1 i) (ih _ (rd_fwQ (by omega)).symm))
    refine ek_f (rn_yn (n := rd_fw st ed tk e i) (by omega)) (fun e3 => nm_r (nI_1 i) (ih (i + 1) (rd_fwP (by omega)).symm)) (fun e3 => ⟨pk_in i 32 hi, rn_iy (by omega) (by omega) (by omega), ?_⟩)
    exact pk_le _ (tk i) (fun y => nm_r (nI_1 i) (ih _ (rd_fwQ (by omega)).symm)) (fun y => nm_r (nI_1 i) (ih (i + 1) (rd_fwP (by omega)).symm)) (rn_Ay (by omega) (by omega)) (rn_rA (by omega))
theorem ry_no (post : Int32 → Prop) (hS : ∀ c, st c ≤ 2) (h : post (rb_ (¬ ∃ c, c < 32 ∧ st c ≠ 0))) : wpY_noCars post (nI kn, nI tn, th, rn_T ln, rn_A op, rn_A fm, rn_A tt, rn_A le, rn_A ln, rn_A li, rn_A rk, rn_A we, rn_A ca, rn_A mk, rn_A fa, rn_A tp, rn_A ac, rn_A sz, rn_A dw, rn_A st, rn_A ty, rn_A ed, rn_A la, rn_A fr, rn_A sp, rn_A go, rn_A nz, rn_A tk, rn_C ch, rn_A en, rn_A nw, rn_A gr, rn_A cr, rn_A ne, rn_A nl, rn_A oe, rn_A ol, rn_A fl, rn_A pc, rn_A ph, rn_A pa, rn_A se, rn_A ls, rn_A mo, rn_A tl, gp, fs) := by
  refine loop_0 (fun n i (_ : Unit) => wY_noCars_2 post (nI kn) (nI tn) th (rn_T ln) (rn_A op) (rn_A fm) (rn_A tt) (rn_A le) (rn_A ln) (rn_A li) (rn_A rk) (rn_A we) (rn_A ca) (rn_A mk) (rn_A fa) (rn_A tp) (rn_A ac) (rn_A sz) (rn_A dw) (rn_A st) (rn_A ty) (rn_A ed) (rn_A la) (rn_A fr) (rn_A sp) (rn_A go) (rn_A nz) (rn_A tk) (rn_C ch) (rn_A en) (rn_A nw) (rn_A gr) (rn_A cr) (rn_A ne) (rn_A nl) (rn_A oe) (rn_A ol) (rn_A fl) (rn_A pc) (rn_A ph) (rn_A pa) (rn_A se) (rn_A ls) (rn_A mo) (rn_A tl) gp fs n (nI i)) (fun i _ => ∀ c, c < i → ¬ st c ≠ 0) 32 () (fun c hc => absurd hc (Nat.not_lt_zero c)) ?_ ?_
  · intro n _ e
    rw [rb_t (fun ⟨c, hc, k⟩ => e c hc k)] at h
    exact br_t (by decide) h
  · intro n i _ hi e ih
    have B1 := hS i
    refine pk_le 32 i (fun z => by omega) (fun _ => ⟨pk_in i 32 hi, ?_⟩)
    refine ek_f (rn_e (rn_rA (by omega)) (b := 0) rfl (by omega) (by omega)) (fun e1 => nm_r (nI_1 i) (ih () (lt_s e (fun k => k e1)))) (fun e1 => ?_)
    exact rb_p0 h (fun k => k ⟨i, hi, e1⟩)
/-- the only one at this place, if there is one -/
theorem ry_ca (post : Int32 → Prop) {e l f k : Nat} {x y w : Int32} (hx : x = nI e) (hy : y = nI l) (hw : w = nI f) (he : e < 1000) (hl : l ≤ 1) (hf : f < 2147483648) (hO : rq_on st ed la ps) (hF : ∀ c, fr c ≤ 400) (hk : (k = 0 ∧ ∀ c, c < 32 → ps c = 2 * e + l + 1 → fr c ≠ f) ∨ (∃ c, k = c + 1 ∧ c < 32 ∧ ps c = 2 * e + l + 1 ∧ fr c = f ∧ ∀ d, d < 32 → ps d = 2 * e + l + 1 → fr d = f → d = c)) (h : post (rn_y k)) : wpY_carAt post (nI kn, nI tn, th, rn_T ln, rn_A op, rn_A fm, rn_A tt, rn_A le, rn_A ln, rn_A li, rn_A rk, rn_A we, rn_A ca, rn_A mk, rn_A fa, rn_A tp, rn_A ac, rn_A sz, rn_A dw, rn_A st, rn_A ty, rn_A ed, rn_A la, rn_A fr, rn_A sp, rn_A go, rn_A nz, rn_A tk, rn_C ch, rn_A en, rn_A nw, rn_A gr, rn_A cr, rn_A ne, rn_A nl, rn_A oe, rn_A ol, rn_A fl, rn_A pc, rn_A ph, rn_A pa, rn_A se, rn_A ls, rn_A mo, rn_A tl, gp, fs) x y w := by
  subst hx hy hw
  refine loop_0 (fun n i (_ : Unit) => wY_carAt_3 post (nI e) (nI l) (nI f) (nI kn) (nI tn) th (rn_T ln) (rn_A op) (rn_A fm) (rn_A tt) (rn_A le) (rn_A ln) (rn_A li) (rn_A rk) (rn_A we) (rn_A ca) (rn_A mk) (rn_A fa) (rn_A tp) (rn_A ac) (rn_A sz) (rn_A dw) (rn_A st) (rn_A ty) (rn_A ed) (rn_A la) (rn_A fr) (rn_A sp) (rn_A go) (rn_A nz) (rn_A tk) (rn_C ch) (rn_A en) (rn_A nw) (rn_A gr) (rn_A cr) (rn_A ne) (rn_A nl) (rn_A oe) (rn_A ol) (rn_A fl) (rn_A pc) (rn_A ph) (rn_A pa) (rn_A se) (rn_A ls) (rn_A mo) (rn_A tl) gp fs n (nI i)) (fun i _ => ∀ c, c < i → ¬ (ps c = 2 * e + l + 1 ∧ fr c = f)) 32 () (fun c hc => absurd hc (Nat.not_lt_zero c)) ?_ ?_
  · intro n _ e0
    rcases hk with ⟨k0, _⟩ | ⟨c, k0, k1, k2, k3, _⟩
    · subst k0
      exact br_t (by decide) h
    · exact absurd ⟨k2, k3⟩ (e0 c k1)
  · intro n i _ hi e0 ih
    have F1 := hF i
    refine pk_le 32 i (fun z => by omega) (fun _ => ry_on' _ hi he hl hO ?_)
    refine rb_b (fun e1 => nm_r (nI_1 i) (ih () (lt_s e0 (fun w => e1 w.1)))) (fun e1 => ⟨pk_in i 32 hi, ?_⟩)
    refine ek_f (rn_e (rn_rA (by omega)) (b := f) rfl (by omega) (by omega)) (fun e2 => ?_) (fun e2 => nm_r (nI_1 i) (ih () (lt_s e0 (fun w => e2 w.2))))
    rcases hk with ⟨k0, k1⟩ | ⟨c, k0, k1, k2, k3, k4⟩
    · exact absurd e2 (k1 i hi e1)
    · have := k4 i hi e1 e2
      subst this
      rw [k0] at h
      exact h
/-- GRANTED this lane, by the code -/
def rq_gd (st gr ne nl pg : Nat → Nat) : Prop := ∀ c, c < 32 → st c ≤ 2 ∧ ((pg c = 0 ∧ gr c = 0) ∨ (st c = 2 ∧ gr c = 1 ∧ pg c = 2 * ne c + nl c + 1 ∧ nl c ≤ 1 ∧ ne c < 16))
theorem ry_gt (post : Int32 → Prop) {e l : Nat} {x y : Int32} (hx : x = nI e) (hy : y = nI l) (he : e < 1000) (hl : l ≤ 1) (hG : rq_gd st gr ne nl pg) (h : post (rb_ (∃ c, c < 32 ∧ pg c = 2 * e + l + 1))) : wpY_isGrantedTo post (nI kn, nI tn, th, rn_T ln, rn_A op, rn_A fm, rn_A tt, rn_A le, rn_A ln, rn_A li, rn_A rk, rn_A we, rn_A ca, rn_A mk, rn_A fa, rn_A tp, rn_A ac, rn_A sz, rn_A dw, rn_A st, rn_A ty, rn_A ed, rn_A la, rn_A fr, rn_A sp, rn_A go, rn_A nz, rn_A tk, rn_C ch, rn_A en, rn_A nw, rn_A gr, rn_A cr, rn_A ne, rn_A nl, rn_A oe, rn_A ol, rn_A fl, rn_A pc, rn_A ph, rn_A pa, rn_A se, rn_A ls, rn_A mo, rn_A tl, gp, fs) x y := by
  subst hx hy
  refine loop_0 (fun n i (_ : Unit) => wY_isGrantedTo_2 post (nI e) (nI l) (nI kn) (nI tn) th (rn_T ln) (rn_A op) (rn_A fm) (rn_A tt) (rn_A le) (rn_A ln) (rn_A li) (rn_A rk) (rn_A we) (rn_A ca) (rn_A mk) (rn_A fa) (rn_A tp) (rn_A ac) (rn_A sz) (rn_A dw) (rn_A st) (rn_A ty) (rn_A ed) (rn_A la) (rn_A fr) (rn_A sp) (rn_A go) (rn_A nz) (rn_A tk) (rn_C ch) (rn_A en) (rn_A nw) (rn_A gr) (rn_A cr) (rn_A ne) (rn_A nl) (rn_A oe) (rn_A ol) (rn_A fl) (rn_A pc) (rn_A ph) (rn_A pa) (rn_A se) (rn_A ls) (rn_A mo) (rn_A tl) gp fs n (nI i)) (fun i _ => ∀ c, c < i → ¬ pg c = 2 * e + l + 1) 32 () (fun c hc => absurd hc (Nat.not_lt_zero c)) ?_ ?_
  · intro n _ e
    rw [rb_f (fun ⟨c, hc, k⟩ => e c hc k)] at h
    exact br_t (by decide) h
  · intro n i _ hi e0 ih
    obtain ⟨g0, g1⟩ := hG i hi
    refine pk_le 32 i (fun z => by omega) (fun _ => ⟨pk_in i 32 hi, ?_⟩)
    refine ek_f (rn_e (rn_rA (by omega)) (b := 2) rfl (by omega) (by omega)) (fun e1 => ⟨pk_in i 32 hi, ?_⟩) (fun e1 => nm_r (nI_1 i) (ih () (lt_s e0 (by omega))))
    refine ek_f (rn_e (rn_rA (by omega)) (b := 0) rfl (by omega) (by omega)) (fun e2 => nm_r (nI_1 i) (ih () (lt_s e0 (by omega)))) (fun e2 => ⟨pk_in i 32 hi, ?_⟩)
    refine ek_f (rn_e (rn_rA (by omega)) (b := e) rfl (by omega) (by omega)) (fun e3 => ⟨pk_in i 32 hi, ?_⟩) (fun e3 => nm_r (nI_1 i) (ih () (lt_s e0 (by omega))))
    refine ek_f (rn_e (rn_rA (by omega)) (b := l) rfl (by omega) (by omega)) (fun e4 => ?_) (fun e4 => nm_r (nI_1 i) (ih () (lt_s e0 (by omega))))
    exact rb_p1 h ⟨i, hi, by omega⟩
end
