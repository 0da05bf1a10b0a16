/-! codes as indices -/
theorem rn_ic {b M : Nat} (h0 : 0 < b) (h : b ≤ M) (hM : M < 2 ^ 31) : vp_in (rn_c b) M := by rw [rn_cs h0]; exact vp_in_nI (by omega) hM
theorem rn_iy {b M : Nat} (h0 : 0 < b) (h : b ≤ M) (hM : M < 2 ^ 31) : vp_in (rn_y b) M := by rw [rn_ys h0]; exact vp_in_nI (by omega) hM
theorem rn_Ac {f : Nat → Nat} {b : Nat} (h0 : 0 < b) (h : b < 2 ^ 31) : rn_A f (rn_c b).toNatClampNeg = nI (f (b - 1)) := by rw [rn_cs h0]; exact rn_rA (by omega)
theorem rn_Bc {f : Nat → Nat} {b : Nat} (h0 : 0 < b) (h : b < 2 ^ 31) : rn_B f (rn_c b).toNatClampNeg = rn_c (f (b - 1)) := by rw [rn_cs h0]; exact rn_rB (by omega)
theorem rn_Ay {f : Nat → Nat} {b : Nat} (h0 : 0 < b) (h : b < 2 ^ 31) : rn_A f (rn_y b).toNatClampNeg = nI (f (b - 1)) := by rw [rn_ys h0]; exact rn_rA (by omega)
theorem rn_iA {f : Nat → Nat} {i M : Nat} (hi : i < 2 ^ 31) (h : f i < M) (hM : M < 2 ^ 31) : vp_in (rn_A f (nI i).toNatClampNeg) M := by rw [rn_rA hi]; exact vp_in_nI h hM
theorem rn_AA {f g : Nat → Nat} {i : Nat} (hi : i < 2 ^ 31) (hg : g i < 2 ^ 31) : rn_A f (rn_A g (nI i).toNatClampNeg).toNatClampNeg = nI (f (g i)) := by rw [rn_rA hi, rn_rA hg]
theorem rn_TT {f : Nat → Nat} {i : Nat} (hi : i < 2 ^ 31) : rn_T f (nI i).toNatClampNeg = 0 ↔ ¬ 0 < f i := by
  rw [nI_clamp hi]
  show nI (if 0 < f i then 1 else 0) = 0 ↔ _
  by_cases h : 0 < f i
  · rw [if_pos h]
    exact ⟨fun z => absurd z (by decide), fun z => absurd h z⟩
  · rw [if_neg h]
    exact ⟨fun _ => h, fun _ => rfl⟩
theorem rb_n (P : Prop) : narrow .boolean (.int (rb_ P)) = .int (rb_ P) := by
  rcases Classical.em P with h | h
  · rw [rb_t h]; rfl
  · rw [rb_f h]; rfl
theorem ek_f {c d A B : Prop} (e : c ↔ d) (f : d → A) (g : ¬ d → B) : (c → A) ∧ (¬ c → B) := ⟨fun h => f (e.mp h), fun h => g (fun z => h (e.mpr z))⟩
/-- a branch on a truth -/
theorem rb_b {P A B : Prop} (f : ¬ P → A) (g : P → B) : (rb_ P = 0 → A) ∧ (¬ rb_ P = 0 → B) := ⟨fun h => f (rb_0.mp h), fun h => g (Classical.byContradiction (fun z => h (rb_f z)))⟩
theorem rb_p0 {post : Int32 → Prop} {P : Prop} (h : post (rb_ P)) (n : ¬ P) : post 0 := by rw [rb_f n] at h; exact h
theorem rb_q0 {post : Int32 → SY → Prop} {P : Prop} {u : SY} (h : post (rb_ P) u) (n : ¬ P) : post 0 u := by rw [rb_f n] at h; exact h
theorem rb_q1 {post : Int32 → SY → Prop} {P : Prop} {u : SY} (h : post (rb_ P) u) (n : P) : post 1 u := by rw [rb_t n] at h; exact h
theorem rd_FoZ {p v q w s : Nat} : (0 ≤ (q : Int) - s - 1 - p ∧ (rd_D v : Int) ≤ (q : Int) - s - 1 - p + rd_D w) ↔ rd_Fo p v q w s := by
  unfold rd_Fo
  omega
theorem rb_p1 {post : Int32 → Prop} {P : Prop} (h : post (rb_ P)) (n : P) : post 1 := by rw [rb_t n] at h; exact h
theorem rn_e {a b : Nat} {x y : Int32} (hx : x = nI a) (hy : y = nI b) (ha : a < 2147483648) (hb : b < 2147483648) : x = y ↔ a = b := by
  subst hx hy
  exact nI_eq ha hb
theorem rn_2 {a b : Nat} {x y : Int32} (hx : x = rn_c a) (hy : y = rn_c b) (ha : a < 2147483648) (hb : b < 2147483648) : x = y ↔ a = b := by
  subst hx hy
  exact rn_ce ha hb
theorem ri_l {a b : Int} {x y : Int32} (hx : x = ri_z a) (hy : y = ri_z b) (ha : -2147483648 ≤ a ∧ a < 2147483648) (hb : -2147483648 ≤ b ∧ b < 2147483648) : x ≤ y ↔ a ≤ b := by
  subst hx hy
  rw [Int32.le_iff_toInt_le, ri_toInt ha.1 ha.2, ri_toInt hb.1 hb.2]
theorem ri_t {a b : Int} {x y : Int32} (hx : x = ri_z a) (hy : y = ri_z b) (ha : -2147483648 ≤ a ∧ a < 2147483648) (hb : -2147483648 ≤ b ∧ b < 2147483648) : x < y ↔ a < b := by
  subst hx hy
  rw [Int32.lt_iff_toInt_lt, ri_toInt ha.1 ha.2, ri_toInt hb.1 hb.2]
theorem rn_D : ∀ v, v < 64 → (nI v / 2) * ((nI v - 1) / 2) = nI (rd_D v) := by decide +kernel
theorem rn_D6 : ∀ v, v < 64 → rd_D v < 2000 := by decide
/-! X: braking, safety -/
theorem rx_bs (post : Int32 → Prop) {v : Nat} (hv : v < 64) (h : post (nI (rd_D v))) : wpX_brakingSpan post (nI v) :=
  ⟨by decide, by decide, by rw [rn_D v hv]; exact h⟩
theorem rx_safe (post : Int32 → Prop) {v w : Nat} {g : Int} (hv : v < 64) (hw : w < 64) (hg : -100000 < g ∧ g < 100000) (h : post (rb_ (0 ≤ g ∧ (rd_D v : Int) ≤ g + rd_D w))) : wpX_isSafe post (nI v) (ri_z g) (nI w) := by
  have d1 := rn_D6 v hv
  have d2 := rn_D6 w hw
  refine ek_f (ri_t (a := g) (b := 0) rfl (ri_n 0) (by omega) (by omega)) (fun z => ?_) (fun z => ?_)
  · rw [rb_f (by omega)] at h; exact h
  · refine rx_bs _ hv (rx_bs _ hw ?_)
    refine ek_f (ri_t (a := g + rd_D w) (b := rd_D v) (by rw [ri_n, ri_add]) (ri_n _) (by omega) (by omega)) (fun y => ?_) (fun y => ?_)
    · rw [rb_f (by omega)] at h; exact h
    · rw [rb_t (by omega)] at h; exact h
/-! Y: stopping, safety -/
theorem ry_stop (post : Int32 → Prop) : ∀ v d n, v < n → v < 64 → post (nI (d + rd_D v)) → wY_stopping_6 post n (nI d) (ri_z ((v : Int) - 2))
  | 0, d, n + 1, _, _, h => by
    have e : nI (d + rd_D 0) = nI d := by rw [rd_D0, Nat.add_zero]
    rw [e] at h
    exact br_t ((ri_l (a := ((0 : Nat) : Int) - 2) (b := ((0 : Nat) : Int)) rfl (ri_n 0) (by omega) (by omega)).mpr (by omega)) h
  | 1, d, n + 1, _, _, h => by
    have e : nI (d + rd_D 1) = nI d := by rw [show rd_D 1 = 0 from rfl, Nat.add_zero]
    rw [e] at h
    exact br_t ((ri_l (a := ((1 : Nat) : Int) - 2) (b := ((0 : Nat) : Int)) rfl (ri_n 0) (by omega) (by omega)).mpr (by omega)) h
  | v + 2, d, n + 1, hn, hv, h => by
    have e : ((v + 2 : Nat) : Int) - 2 = v := by omega
    rw [e]
    rcases Nat.eq_zero_or_pos v with z | z
    · subst z
      have e : nI (d + rd_D (0 + 2)) = nI d := by rw [show rd_D (0 + 2) = 0 from rfl, Nat.add_zero]
      rw [e] at h
      exact br_t ((ri_l (a := ((0 : Nat) : Int)) (b := ((0 : Nat) : Int)) rfl (ri_n 0) (by omega) (by omega)).mpr (by omega)) h
    · refine br_f (fun k => ?_) (nm_r (e' := nI (d + v)) (by rw [← ri_n, nI_add]) (nm_r (e' := ri_z ((v : Int) - 2)) (by rw [show (-2 : Int32) = ri_z (-2) from ri_m2, ri_add]; rfl) ?_))
      · have := (ri_l (a := v) (b := 0) rfl (ri_n 0) (by omega) (by omega)).mp k
        omega
      · refine ry_stop post v (d + v) n (by omega) (by omega) ?_
        rw [Nat.add_assoc, ← rd_D2]; exact h
theorem ry_st (post : Int32 → Prop) {v : Nat} (hv : v < 64) (h : post (nI (rd_D v))) : wpY_stopping post (nI v) := by
  refine nm_r (e' := ri_z ((v : Int) - 2)) (by rw [ri_n, show (2 : Int32) = ri_z 2 from ri_n 2, ri_sub]) ⟨v + 1, ?_⟩
  have := ry_stop post v 0 (v + 1) (by omega) hv (by rw [Nat.zero_add]; exact h)
  exact this
theorem ry_safe (post : Int32 → Prop) {v w : Nat} {g : Int} (hv : v < 64) (hw : w < 64) (hg : -100000 < g ∧ g < 100000) (h : post (rb_ (0 ≤ g ∧ (rd_D v : Int) ≤ g + rd_D w))) : wpY_isSafe post (ri_z g) (nI v) (nI w) := by
  have d1 := rn_D6 v hv
  have d2 := rn_D6 w hw
  refine ry_st _ hv (ry_st _ hw ?_)
  refine ek_f (ri_t (a := g) (b := 0) rfl (ri_n 0) (by omega) (by omega)) (fun z => ?_) (fun z => ?_)
  · rw [rb_f (by omega)] at h; exact h
  · refine ek_f (ri_t (a := g + rd_D w) (b := rd_D v) (by rw [ri_n, ri_add]) (ri_n _) (by omega) (by omega)) (fun y => ?_) (fun y => ?_)
    · rw [rb_f (by omega)] at h; exact h
    · rw [rb_t (by omega)] at h; exact h
