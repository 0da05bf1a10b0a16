/-! the constructors -/
theorem rn_fA {i x : Nat} (h : i < 2 ^ 31) : upd (rn_A (fun j => if j < i then x else 0)) (nI i).toNatClampNeg (nI x) = rn_A (fun j => if j < i + 1 then x else 0) := by
  rw [rn_uA h]
  congr 1
  funext j
  unfold ru_p
  by_cases z : j = i
  · rw [if_pos z, if_pos (by omega)]
  · rw [if_neg z]
    show (if j < i then x else 0) = _
    by_cases w : j < i
    · rw [if_pos w, if_pos (by omega)]
    · rw [if_neg w, if_neg (by omega)]
theorem ru_f0 {i : Nat} : ru_p (fun j => if j < i then 0 else 1) i 0 = (fun j => if j < i + 1 then 0 else 1) := by
  funext j
  unfold ru_p
  by_cases z : j = i
  · rw [if_pos z, if_pos (by omega)]
  · rw [if_neg z]
    show (if j < i then 0 else 1) = _
    by_cases w : j < i
    · rw [if_pos w, if_pos (by omega)]
    · rw [if_neg w, if_neg (by omega)]
theorem ru_z {i : Nat} : ru_p (fun _ => 0) i 0 = (fun _ => 0) := by
  funext j
  unfold ru_p
  split <;> rfl
theorem rn_A0 (x : Nat) : rn_A (fun j => if j < 0 then x else 0) = (fun _ => 0) := by
  funext j
  show nI (if j < 0 then x else 0) = 0
  rw [if_neg (by omega)]
  rfl
theorem rl_E0 : (rq_E (fun _ => 0) (fun _ => 0) (fun _ => 0) (fun _ => 0) (fun _ => 0) (fun _ => 0) (fun _ => 0) (fun _ => 0) (fun _ => 0)) := ⟨fun e => by dsimp only; omega, fun e h => absurd h (Nat.lt_irrefl 0), fun e _ => rfl⟩
theorem rl_I0 {wd wn : Nat → Nat} (h : (rq_WX (fun _ => 0) (fun _ => 0) (fun _ => 0) (fun _ => 0) (fun _ => 0) (fun _ => 0) (fun _ => 0) (fun _ => 0) wd wn)) : (rq_I (fun _ => 0) (fun _ => 0) (fun _ => 0) (fun _ => 0) (fun _ => 0) (fun _ => 0) (fun _ => 0) (fun _ => 0) (fun _ => 0) wd wn (fun _ => 0) (fun _ => 0) (fun _ => 0) (fun _ => 0) (fun _ => 0) (fun _ => 0) (fun _ => 0) (fun _ => 0) (fun j => if j < 4 then 6 else 0) (fun j => if j < 4 then 1 else 0) (fun j => if j < 4 then 4 else 0) (fun _ => 0) (fun _ => 0) (fun _ => 0) (fun _ => 0) (fun _ => 0) (fun _ => 0) (fun _ => 0) (fun _ => 0) (fun _ => 0) (fun _ => 1) (fun j => if j < 32 then 0 else 1) (fun j => if j < 32 then 0 else 1) (fun j => if j < 32 then 0 else 1) (fun j => if j < 32 then 0 else 1) (fun _ => 0) (fun _ => 0) (fun _ => 0) (fun _ => 0) (fun _ => 0) (fun _ => 0) (fun _ => 0) (fun _ => 0) (fun _ => 0) 0 0) := by
  refine ⟨⟨rl_E0, ⟨fun c => by dsimp only; omega, fun c hc => ?_⟩, fun j hj => ?_, fun t ht => ?_, h, rfl, by omega, by omega⟩, rd_none (fun c hc => if_pos hc) (fun c hc => if_pos hc)⟩
  · dsimp only
    rw [if_pos hc]
    exact ⟨fun w => absurd rfl w, fun w => by omega, fun _ => ⟨rfl, rfl, rfl⟩, Or.inl ⟨rfl, rfl⟩, fun w => by omega⟩
  · dsimp only
    exact ⟨by omega, fun _ => ⟨rfl, rfl⟩, fun w => by omega, by omega, fun k hk => by omega⟩
  · dsimp only
    rw [if_pos ht, if_pos ht, if_pos ht]
    omega
theorem rl_xi (post : SX → Prop) (H : ∀ wd wn, (rq_WX (fun _ => 0) (fun _ => 0) (fun _ => 0) (fun _ => 0) (fun _ => 0) (fun _ => 0) (fun _ => 0) (fun _ => 0) wd wn) → post (nI 0, rn_A (fun _ => 0), rn_A (fun _ => 0), rn_A (fun _ => 0), rn_A (fun _ => 0), rn_A (fun _ => 0), rn_A (fun _ => 0), rn_A (fun _ => 0), rn_A (fun _ => 0), rn_A (fun _ => 0), rn_A (fun _ => 0), rn_B wd, rn_B wn, rn_A (fun _ => 0), rn_A (fun _ => 0), rn_A (fun _ => 0), rn_A (fun _ => 0), rn_A (fun _ => 0), rn_A (fun j => if j < 4 then 6 else 0), rn_A (fun j => if j < 4 then 1 else 0), rn_A (fun j => if j < 4 then 4 else 0), rn_A (fun _ => 0), rn_A (fun _ => 0), rn_A (fun _ => 0), rn_A (fun _ => 0), rn_B (fun j => if j < 32 then 0 else 1), rn_A (fun _ => 0), rn_A (fun _ => 0), rn_A (fun _ => 0), rn_A (fun _ => 0), rn_B (fun j => if j < 32 then 0 else 1), rn_B (fun j => if j < 32 then 0 else 1), rn_B (fun j => if j < 32 then 0 else 1), rn_A (fun _ => 0), rn_A (fun _ => 0), rn_B (fun _ => 1), rn_A (fun _ => 0), rn_A (fun _ => 0))) : ∀ n i, i ≤ 32 → 32 - i < n → wX_init_340 post n (nI i) (nI 0) (rn_A (fun _ => 0)) (rn_A (fun _ => 0)) (rn_A (fun _ => 0)) (rn_A (fun _ => 0)) (rn_A (fun _ => 0)) (rn_A (fun _ => 0)) (rn_A (fun _ => 0)) (rn_A (fun _ => 0)) (rn_A (fun _ => 0)) (rn_A (fun _ => 0)) (rn_B (fun _ => 1)) (rn_B (fun _ => 1)) (rn_A (fun _ => 0)) (rn_A (fun _ => 0)) (rn_A (fun _ => 0)) (rn_A (fun _ => 0)) (rn_A (fun _ => 0)) (rn_A (fun j => if j < 4 then 6 else 0)) (rn_A (fun j => if j < 4 then 1 else 0)) (rn_A (fun j => if j < 4 then 4 else 0)) (rn_A (fun _ => 0)) (rn_A (fun _ => 0)) (rn_A (fun _ => 0)) (rn_A (fun _ => 0)) (rn_B (fun j => if j < i then 0 else 1)) (rn_A (fun _ => 0)) (rn_A (fun _ => 0)) (rn_A (fun _ => 0)) (rn_A (fun _ => 0)) (rn_B (fun j => if j < i then 0 else 1)) (rn_B (fun j => if j < i then 0 else 1)) (rn_B (fun j => if j < i then 0 else 1)) (rn_A (fun _ => 0)) (rn_A (fun _ => 0)) (rn_B (fun _ => 1)) (rn_A (fun _ => 0)) (rn_A (fun _ => 0)) := by
  intro n
  induction n with
  | zero => intro i _ h; omega
  | succ n ih =>
    intro i hi hn
    refine pk_le 32 i (fun z => ?_) (fun z => rx_to _ rfl z ?_)
    · have e : i = 32 := by omega
      subst e
      exact rx_ways _ rl_E0 H
    · rw [ru_f0, ru_z]
      exact nm_r (nI_1 i) (ih (i + 1) (by omega) (by omega))
theorem rl_xj (post : SX → Prop) (H : ∀ wd wn, (rq_WX (fun _ => 0) (fun _ => 0) (fun _ => 0) (fun _ => 0) (fun _ => 0) (fun _ => 0) (fun _ => 0) (fun _ => 0) wd wn) → post (nI 0, rn_A (fun _ => 0), rn_A (fun _ => 0), rn_A (fun _ => 0), rn_A (fun _ => 0), rn_A (fun _ => 0), rn_A (fun _ => 0), rn_A (fun _ => 0), rn_A (fun _ => 0), rn_A (fun _ => 0), rn_A (fun _ => 0), rn_B wd, rn_B wn, rn_A (fun _ => 0), rn_A (fun _ => 0), rn_A (fun _ => 0), rn_A (fun _ => 0), rn_A (fun _ => 0), rn_A (fun j => if j < 4 then 6 else 0), rn_A (fun j => if j < 4 then 1 else 0), rn_A (fun j => if j < 4 then 4 else 0), rn_A (fun _ => 0), rn_A (fun _ => 0), rn_A (fun _ => 0), rn_A (fun _ => 0), rn_B (fun j => if j < 32 then 0 else 1), rn_A (fun _ => 0), rn_A (fun _ => 0), rn_A (fun _ => 0), rn_A (fun _ => 0), rn_B (fun j => if j < 32 then 0 else 1), rn_B (fun j => if j < 32 then 0 else 1), rn_B (fun j => if j < 32 then 0 else 1), rn_A (fun _ => 0), rn_A (fun _ => 0), rn_B (fun _ => 1), rn_A (fun _ => 0), rn_A (fun _ => 0))) : ∀ n i, i ≤ 4 → 4 - i < n → wX_init_305 post 0 n (nI i) (rn_A (fun _ => 0)) (rn_A (fun _ => 0)) (rn_A (fun _ => 0)) (rn_A (fun _ => 0)) (rn_A (fun _ => 0)) (rn_A (fun _ => 0)) (rn_A (fun _ => 0)) (rn_A (fun _ => 0)) (rn_A (fun _ => 0)) (rn_A (fun _ => 0)) (rn_B (fun _ => 1)) (rn_B (fun _ => 1)) (rn_A (fun _ => 0)) (rn_A (fun _ => 0)) (rn_A (fun _ => 0)) (rn_A (fun _ => 0)) (rn_A (fun _ => 0)) (rn_A (fun j => if j < i then 6 else 0)) (rn_A (fun j => if j < i then 1 else 0)) (rn_A (fun j => if j < i then 4 else 0)) (rn_A (fun _ => 0)) (rn_A (fun _ => 0)) (rn_A (fun _ => 0)) (rn_A (fun _ => 0)) (rn_B (fun _ => 1)) (rn_A (fun _ => 0)) (rn_A (fun _ => 0)) (rn_A (fun _ => 0)) (rn_A (fun _ => 0)) (rn_B (fun _ => 1)) (rn_B (fun _ => 1)) (rn_B (fun _ => 1)) (rn_A (fun _ => 0)) (rn_A (fun _ => 0)) (rn_B (fun _ => 1)) (rn_A (fun _ => 0)) (rn_A (fun _ => 0)) := by
  intro n
  induction n with
  | zero => intro i _ h; omega
  | succ n ih =>
    intro i hi hn
    refine pk_le 4 i (fun z => ?_) (fun z => ⟨pk_in i 4 z, nm_r (rn_fA (x := 6) (by omega)) ⟨pk_in i 4 z, nm_r (rn_fA (x := 1) (by omega)) ⟨pk_in i 4 z, nm_r (rn_fA (x := 4) (by omega)) (nm_r (nI_1 i) (ih (i + 1) (by omega) (by omega)))⟩⟩⟩)
    have e : i = 4 := by omega
    subst e
    have t := rl_xi post H 33 0 (by omega) (by omega)
    exact ⟨33, t⟩
theorem rl_yj (post : SY → Prop) (H : post (nI 0, nI 0, 0, rn_T (fun _ => 0), rn_A (fun _ => 0), rn_A (fun _ => 0), rn_A (fun _ => 0), rn_A (fun _ => 0), rn_A (fun _ => 0), rn_A (fun _ => 0), rn_A (fun _ => 0), rn_A (fun _ => 0), rn_A (fun _ => 0), rn_A (fun _ => 0), rn_A (fun _ => 0), rn_A (fun j => if j < 4 then 6 else 0), rn_A (fun j => if j < 4 then 1 else 0), rn_A (fun j => if j < 4 then 4 else 0), rn_A (fun _ => 0), rn_A (fun _ => 0), rn_A (fun _ => 0), rn_A (fun _ => 0), rn_A (fun _ => 0), rn_A (fun _ => 0), rn_A (fun _ => 0), rn_A (fun _ => 0), rn_A (fun _ => 0), rn_A (fun _ => 0), rn_C (fun _ => 1), rn_A (fun _ => 0), rn_A (fun _ => 0), rn_A (fun _ => 0), rn_A (fun _ => 0), rn_A (fun _ => 0), rn_A (fun _ => 0), rn_A (fun _ => 0), rn_A (fun _ => 0), rn_A (fun _ => 0), rn_A (fun _ => 0), rn_A (fun _ => 0), rn_A (fun _ => 0), rn_A (fun _ => 0), rn_A (fun _ => 0), rn_A (fun _ => 0), rn_A (fun _ => 0), (fun _ => 0), (fun _ => 0))) : ∀ n i, i ≤ 4 → 4 - i < n → wY_init_353 post 0 0 0 n (nI i) (rn_T (fun _ => 0)) (rn_A (fun _ => 0)) (rn_A (fun _ => 0)) (rn_A (fun _ => 0)) (rn_A (fun _ => 0)) (rn_A (fun _ => 0)) (rn_A (fun _ => 0)) (rn_A (fun _ => 0)) (rn_A (fun _ => 0)) (rn_A (fun _ => 0)) (rn_A (fun _ => 0)) (rn_A (fun _ => 0)) (rn_A (fun j => if j < i then 6 else 0)) (rn_A (fun j => if j < i then 1 else 0)) (rn_A (fun j => if j < i then 4 else 0)) (rn_A (fun _ => 0)) (rn_A (fun _ => 0)) (rn_A (fun _ => 0)) (rn_A (fun _ => 0)) (rn_A (fun _ => 0)) (rn_A (fun _ => 0)) (rn_A (fun _ => 0)) (rn_A (fun _ => 0)) (rn_A (fun _ => 0)) (rn_A (fun _ => 0)) (rn_C (fun _ => 1)) (rn_A (fun _ => 0)) (rn_A (fun _ => 0)) (rn_A (fun _ => 0)) (rn_A (fun _ => 0)) (rn_A (fun _ => 0)) (rn_A (fun _ => 0)) (rn_A (fun _ => 0)) (rn_A (fun _ => 0)) (rn_A (fun _ => 0)) (rn_A (fun _ => 0)) (rn_A (fun _ => 0)) (rn_A (fun _ => 0)) (rn_A (fun _ => 0)) (rn_A (fun _ => 0)) (rn_A (fun _ => 0)) (rn_A (fun _ => 0)) (fun _ => 0) (fun _ => 0) := by
  intro n
  induction n with
  | zero => intro i _ h; omega
  | succ n ih =>
    intro i hi hn
    refine pk_le 4 i (fun z => ?_) (fun z => ⟨pk_in i 4 z, nm_r (rn_fA (x := 6) (by omega)) ⟨pk_in i 4 z, nm_r (rn_fA (x := 1) (by omega)) ⟨pk_in i 4 z, nm_r (rn_fA (x := 4) (by omega)) (nm_r (nI_1 i) (ih (i + 1) (by omega) (by omega)))⟩⟩⟩)
    have e : i = 4 := by omega
    subst e
    exact H
theorem i_vc0 : wpX_init (fun u => wpY_init (fun v => i_Rel 0 u v)) := by
  have H : ∀ wd wn, (rq_WX (fun _ => 0) (fun _ => 0) (fun _ => 0) (fun _ => 0) (fun _ => 0) (fun _ => 0) (fun _ => 0) (fun _ => 0) wd wn) → wpY_init (fun v => i_Rel 0 (nI 0, rn_A (fun _ => 0), rn_A (fun _ => 0), rn_A (fun _ => 0), rn_A (fun _ => 0), rn_A (fun _ => 0), rn_A (fun _ => 0), rn_A (fun _ => 0), rn_A (fun _ => 0), rn_A (fun _ => 0), rn_A (fun _ => 0), rn_B wd, rn_B wn, rn_A (fun _ => 0), rn_A (fun _ => 0), rn_A (fun _ => 0), rn_A (fun _ => 0), rn_A (fun _ => 0), rn_A (fun j => if j < 4 then 6 else 0), rn_A (fun j => if j < 4 then 1 else 0), rn_A (fun j => if j < 4 then 4 else 0), rn_A (fun _ => 0), rn_A (fun _ => 0), rn_A (fun _ => 0), rn_A (fun _ => 0), rn_B (fun j => if j < 32 then 0 else 1), rn_A (fun _ => 0), rn_A (fun _ => 0), rn_A (fun _ => 0), rn_A (fun _ => 0), rn_B (fun j => if j < 32 then 0 else 1), rn_B (fun j => if j < 32 then 0 else 1), rn_B (fun j => if j < 32 then 0 else 1), rn_A (fun _ => 0), rn_A (fun _ => 0), rn_B (fun _ => 1), rn_A (fun _ => 0), rn_A (fun _ => 0)) v) := by
    intro wd wn h
    have t := rl_yj (fun v => i_Rel 0 (nI 0, rn_A (fun _ => 0), rn_A (fun _ => 0), rn_A (fun _ => 0), rn_A (fun _ => 0), rn_A (fun _ => 0), rn_A (fun _ => 0), rn_A (fun _ => 0), rn_A (fun _ => 0), rn_A (fun _ => 0), rn_A (fun _ => 0), rn_B wd, rn_B wn, rn_A (fun _ => 0), rn_A (fun _ => 0), rn_A (fun _ => 0), rn_A (fun _ => 0), rn_A (fun _ => 0), rn_A (fun j => if j < 4 then 6 else 0), rn_A (fun j => if j < 4 then 1 else 0), rn_A (fun j => if j < 4 then 4 else 0), rn_A (fun _ => 0), rn_A (fun _ => 0), rn_A (fun _ => 0), rn_A (fun _ => 0), rn_B (fun j => if j < 32 then 0 else 1), rn_A (fun _ => 0), rn_A (fun _ => 0), rn_A (fun _ => 0), rn_A (fun _ => 0), rn_B (fun j => if j < 32 then 0 else 1), rn_B (fun j => if j < 32 then 0 else 1), rn_B (fun j => if j < 32 then 0 else 1), rn_A (fun _ => 0), rn_A (fun _ => 0), rn_B (fun _ => 1), rn_A (fun _ => 0), rn_A (fun _ => 0)) v) (rl_rel (rl_I0 h) (Or.inl rfl) (by omega) (by omega)) 5 0 (by omega) (by omega)
    rw [rn_A0, rn_A0, rn_A0] at t
    exact ⟨5, t⟩
  have t := rl_xj (fun u => wpY_init (fun v => i_Rel 0 u v)) H 5 0 (by omega) (by omega)
  rw [rn_A0, rn_A0, rn_A0] at t
  exact ⟨5, t⟩
