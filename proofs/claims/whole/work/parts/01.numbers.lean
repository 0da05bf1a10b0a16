theorem pk_us {f : Nat → Int32} {k : Nat} {x : Int32} : upd f k x k = x := if_pos rfl
theorem pk_un {f : Nat → Int32} {k j : Nat} {x : Int32} (h : j ≠ k) : upd f k x j = f j := if_neg h
theorem pk_sub {a b : Nat} (h : b ≤ a) : nI a - nI b = nI (a - b) := by
  obtain ⟨c, rfl⟩ : ∃ c, a = c + b := ⟨a - b, by omega⟩
  rw [← nI_add, Int32.add_sub_cancel, Nat.add_sub_cancel]
theorem pk_m1 (n : Nat) : nI (n + 1) + (-1) = nI n := by
  rw [← nI_1, Int32.add_assoc, show (1 : Int32) + (-1) = 0 from rfl, Int32.add_zero]
theorem pk_mul (a b : Nat) : nI a * nI b = nI (a * b) := (Int32.ofNat_mul a b).symm
theorem pk_div {a d : Nat} (ha : a < 2 ^ 31) (h0 : 0 < d) (hd : d < 2 ^ 31) : nI a / nI d = nI (a / d) := by
  apply Int32.toInt_inj.mp
  rw [lg_idiv_nonneg (by rw [nI_toInt ha]; omega) (by rw [nI_toInt hd]; omega), nI_toInt ha, nI_toInt hd, nI_toInt (Nat.lt_of_le_of_lt (Nat.div_le_self a d) ha)]
  first | rfl | exact (Int.natCast_ediv _ _).symm
theorem pk_rem {a d : Nat} (ha : a < 2 ^ 31) (h0 : 0 < d) (hd : d < 2 ^ 31) : nI a - nI a / nI d * nI d = nI (a % d) := by
  rw [pk_div ha h0 hd, pk_mul, pk_sub (Nat.div_mul_le_self a d)]
  exact congrArg nI (by have := Nat.div_add_mod' a d; omega)
theorem pk_sub_toInt {a b : Nat} (ha : a < 2 ^ 30) (hb : b < 2 ^ 30) : (nI a - nI b).toInt = (a : Int) - b := by
  rw [Int32.toInt_sub, nI_toInt (by omega), nI_toInt (by omega)]
  exact Int.bmod_eq_of_le (by omega) (by omega)
theorem pk_sneg {a b : Nat} (hb : b < 2 ^ 30) (h : a < b) : nI a - nI b < 0 := by
  rw [Int32.lt_iff_toInt_lt, pk_sub_toInt (by omega) hb, show (0 : Int32).toInt = 0 from by decide]
  omega
theorem pk_ix (x : Int32) {n : Nat} (hn : n < 2 ^ 31) : x < 0 ∨ nI n ≤ x ∨ ∃ j : Nat, j < n ∧ x = nI j := by
  by_cases h : x < 0
  · exact Or.inl h
  · obtain ⟨j, hj, rfl⟩ := nI_of h
    by_cases h2 : j < n
    · exact Or.inr (Or.inr ⟨j, h2, rfl⟩)
    · exact Or.inr (Or.inl (nI_le (by omega) hj))
theorem pk_le {x y : Int32} {A B : Prop} (a b : Nat) (f : a ≤ b → A) (g : b < a → B) (hx : x = nI a := by rfl) (hy : y = nI b := by rfl) (ha : a < 2 ^ 31 := by omega) (hb : b < 2 ^ 31 := by omega) : (x ≤ y → A) ∧ (¬ x ≤ y → B) := by
  subst hx hy
  rw [nI_leI ha hb]
  exact ⟨f, fun z => g (by omega)⟩
theorem pk_lt {x y : Int32} {A B : Prop} (a b : Nat) (f : a < b → A) (g : b ≤ a → B) (hx : x = nI a := by rfl) (hy : y = nI b := by rfl) (ha : a < 2 ^ 31 := by omega) (hb : b < 2 ^ 31 := by omega) : (x < y → A) ∧ (¬ x < y → B) := by
  subst hx hy
  rw [nI_ltI ha hb]
  exact ⟨f, fun z => g (by omega)⟩
theorem pk_eq {x y : Int32} {A B : Prop} (a b : Nat) (f : a = b → A) (g : a ≠ b → B) (hx : x = nI a := by rfl) (hy : y = nI b := by rfl) (ha : a < 2 ^ 31 := by omega) (hb : b < 2 ^ 31 := by omega) : (x = y → A) ∧ (¬ x = y → B) := by
  subst hx hy
  rw [nI_eq ha hb]
  exact ⟨f, g⟩
theorem pk_in {x : Int32} (n N : Nat) (h : n < N) (hx : x = nI n := by rfl) (hN : N < 2 ^ 31 := by omega) : vp_in x N := by
  subst hx
  exact vp_in_nI h hN
theorem pk_cl {x : Int32} (n : Nat) (hx : x = nI n := by rfl) (h : n < 2 ^ 31 := by omega) : x.toNatClampNeg = n := by
  subst hx
  exact nI_clamp h
theorem pk_tn {n : Nat} (h : n < 2 ^ 32) : (nI n).toBitVec.toNat = n := Nat.mod_eq_of_lt h
theorem pk_and (x : Int32) {m : Int32} (k : Nat) (hm : m.toBitVec.toNat = 2 ^ k - 1) : x &&& m = nI (x.toBitVec.toNat % 2 ^ k) := by
  apply Int32.toBitVec_inj.mp
  apply BitVec.eq_of_toNat_eq
  rw [Int32.toBitVec_and, BitVec.toNat_and, hm, Nat.and_two_pow_sub_one_eq_mod]
  show _ = (BitVec.ofNat 32 _).toNat
  rw [BitVec.toNat_ofNat]
  exact (Nat.mod_eq_of_lt (Nat.lt_of_le_of_lt (Nat.mod_le _ _) x.toBitVec.isLt)).symm
theorem pk_andN {n : Nat} (h : n < 2 ^ 32) {m : Int32} (k : Nat) (hm : m.toBitVec.toNat = 2 ^ k - 1) : nI n &&& m = nI (n % 2 ^ k) := by
  rw [pk_and _ k hm, pk_tn h]
theorem pk_andE (x : Int32) {m : Int32} (k : Nat) (hm : m.toBitVec.toNat = 2 ^ k - 1) : ∃ j : Nat, j < 2 ^ k ∧ x &&& m = nI j := ⟨_, Nat.mod_lt _ (Nat.two_pow_pos k), pk_and x k hm⟩
theorem pk_andIn (x : Int32) {m : Int32} (k : Nat) (hm : m.toBitVec.toNat = 2 ^ k - 1) (hk : k ≤ 30) : vp_in (x &&& m) (2 ^ k) := by
  obtain ⟨j, hj, e⟩ := pk_andE x k hm
  rw [e]
  exact vp_in_nI hj (Nat.lt_of_le_of_lt (Nat.pow_le_pow_right (by decide) hk) (by decide))
theorem pk_shl (a s : Int32) (k : Nat) (hs : (s.toBitVec.smod 32).toNat = k) : (a <<< s).toBitVec.toNat = a.toBitVec.toNat * 2 ^ k % 2 ^ 32 := by
  show (a.toBitVec <<< (s.toBitVec.smod 32).toNat).toNat = _
  rw [hs, BitVec.toNat_shiftLeft, Nat.shiftLeft_eq]
theorem pk_shlN {n : Nat} (s : Int32) (k : Nat) (hs : (s.toBitVec.smod 32).toNat = k) (h : n * 2 ^ k < 2 ^ 32) : nI n <<< s = nI (n * 2 ^ k) := by
  apply Int32.toBitVec_inj.mp
  apply BitVec.eq_of_toNat_eq
  have hn : n < 2 ^ 32 := Nat.lt_of_le_of_lt (Nat.le_mul_of_pos_right n (Nat.two_pow_pos k)) h
  rw [pk_shl _ _ k hs, pk_tn hn, pk_tn h, Nat.mod_eq_of_lt h]
theorem pk_shr (a s : Int32) (k : Nat) (hs : (s.toBitVec.smod 32).toNat = k) : (a >>> s).toInt = a.toInt >>> k := by
  show (a.toBitVec.sshiftRight (s.toBitVec.smod 32).toNat).toInt = _
  rw [hs, BitVec.toInt_sshiftRight]
  rfl
theorem pk_shrN {n : Nat} (h : n < 2 ^ 31) (s : Int32) (k : Nat) (hs : (s.toBitVec.smod 32).toNat = k) : nI n >>> s = nI (n / 2 ^ k) := by
  apply Int32.toInt_inj.mp
  have h2 : n / 2 ^ k ≤ n := Nat.div_le_self _ _
  rw [pk_shr _ _ k hs, nI_toInt h, nI_toInt (by omega), Int.shiftRight_eq_div_pow]
  rfl
theorem pk_ushr (x s : Int32) (k : Nat) (hs : ((s.toUInt32 &&& Int32.toUInt32 31).toBitVec % 32).toNat = k) : (x.toUInt32 >>> (s.toUInt32 &&& Int32.toUInt32 31)).toInt32.toBitVec.toNat = x.toBitVec.toNat / 2 ^ k := by
  have e : (x.toUInt32 >>> (s.toUInt32 &&& Int32.toUInt32 31)).toInt32.toBitVec = x.toBitVec >>> k := by
    rw [← hs]
    exact UInt32.toBitVec_shiftRight _ _
  rw [e, BitVec.toNat_ushiftRight, Nat.shiftRight_eq_div_pow]
theorem pk_ushrN {n : Nat} (hn : n < 2 ^ 32) (s : Int32) (k : Nat) (hs : ((s.toUInt32 &&& Int32.toUInt32 31).toBitVec % 32).toNat = k) : ((nI n).toUInt32 >>> (s.toUInt32 &&& Int32.toUInt32 31)).toInt32 = nI (n / 2 ^ k) := by
  apply Int32.toBitVec_inj.mp
  apply BitVec.eq_of_toNat_eq
  rw [pk_ushr _ s k hs, pk_tn hn, pk_tn (Nat.lt_of_le_of_lt (Nat.div_le_self _ _) hn)]
theorem pk_loop {σ : Type} (W : Nat → Nat → σ → Prop) (I : Nat → σ → Prop) (e i0 : Nat) (s : σ) (hi : i0 ≤ e) (h0 : I i0 s) (hx : ∀ n s, I e s → W (n + 1) e s)
    (hs : ∀ n i s, i < e → I i s → (∀ s', I (i + 1) s' → W n (i + 1) s') → W (n + 1) i s) : ∃ n, W n i0 s :=
  ⟨e + 1, loop_i W I e hx hs (e + 1) i0 s hi (by omega) h0⟩
theorem pk_loopD {σ : Type} (W : Nat → Nat → σ → Prop) (I : Nat → σ → Prop) (hx : ∀ n s, I 0 s → W (n + 1) 0 s)
    (hs : ∀ n i s, I (i + 1) s → (∀ s', I i s' → W n i s') → W (n + 1) (i + 1) s) : ∀ (e : Nat) (s : σ), I e s → W (e + 1) e s := by
  intro e
  induction e with
  | zero => exact fun s h => hx 0 s h
  | succ e ih => exact fun s h => hs (e + 1) e s h (fun s' h' => ih s' h')
theorem pk_least (P : Nat → Prop) (h : ∃ k, P k) : ∃ k, P k ∧ ∀ j, j < k → ¬ P j := by
  obtain ⟨k, hk⟩ := h
  induction k using Nat.strongRecOn with
  | ind k ih =>
    by_cases e : ∃ j, j < k ∧ P j
    · obtain ⟨j, hj, pj⟩ := e
      exact ih j hj pj
    · exact ⟨k, hk, fun j hj pj => e ⟨j, hj, pj⟩⟩
theorem ek_if {c d A B : Prop} (e : c ↔ d) (f : d → A) (g : ¬ d → B) : (c → A) ∧ (¬ c → B) :=
  ⟨fun z => f (e.mp z), fun z => g (fun y => z (e.mpr y))⟩
theorem ek_v {α : Sort _} {P : α → Prop} {a b : α} (e : a = b) (h : P b) : P a := e ▸ h
def bt (x : Int32) (i : Nat) : Bool := x.toBitVec.getLsbD i
theorem b_ext {x y : Int32} (h : ∀ i, i < 32 → bt x i = bt y i) : x = y := Int32.toBitVec_inj.mp (BitVec.eq_of_getLsbD_eq (fun i hi => h i hi))
theorem b_or (x y : Int32) (i : Nat) : bt (x ||| y) i = (bt x i || bt y i) := by unfold bt; rw [Int32.toBitVec_or, BitVec.getLsbD_or]
theorem b_and (x y : Int32) (i : Nat) : bt (x &&& y) i = (bt x i && bt y i) := by unfold bt; rw [Int32.toBitVec_and, BitVec.getLsbD_and]
theorem b_xor (x y : Int32) (i : Nat) : bt (x ^^^ y) i = (bt x i ^^ bt y i) := by unfold bt; rw [Int32.toBitVec_xor, BitVec.getLsbD_xor]
theorem b_big {x : Int32} {i : Nat} (h : 32 ≤ i) : bt x i = false := BitVec.getLsbD_of_ge _ _ h
theorem b_255 (i : Nat) : bt 255 i = decide (i < 8) := by
  rcases Nat.lt_or_ge i 32 with h | h
  · exact (by decide +kernel : ∀ i, i < 32 → bt 255 i = decide (i < 8)) i h
  · rw [b_big h, decide_eq_false (by omega)]
theorem b_65535 (i : Nat) : bt 65535 i = decide (i < 16) := by
  rcases Nat.lt_or_ge i 32 with h | h
  · exact (by decide +kernel : ∀ i, i < 32 → bt 65535 i = decide (i < 16)) i h
  · rw [b_big h, decide_eq_false (by omega)]
theorem b_m1 : ∀ i, i < 32 → bt (-1) i = true := by decide +kernel
theorem b_0 (i : Nat) : bt 0 i = false := BitVec.getLsbD_zero
theorem s_l : ∀ n, n < 32 → ((nI n &&& 31).toBitVec.smod 32).toNat = n := by decide +kernel
theorem s_u : ∀ n, n < 32 → (((nI n).toUInt32 &&& Int32.toUInt32 31).toBitVec % 32).toNat = n := by decide +kernel
theorem b_shl (n : Nat) (hn : n < 32) (x : Int32) {i : Nat} (hi : i < 32) : bt (x <<< (nI n &&& 31)) i = (decide (n ≤ i) && bt x (i - n)) := by
  unfold bt
  rw [Int32.toBitVec_shiftLeft]
  show (x.toBitVec <<< ((nI n &&& 31).toBitVec.smod 32).toNat).getLsbD i = _
  rw [s_l n hn, BitVec.getLsbD_shiftLeft]
  rcases Nat.lt_or_ge i n with h | h
  · simp [h, Nat.not_le.mpr h]
  · simp [hi, h, Nat.not_lt.mpr h]
theorem b_ushr (n : Nat) (hn : n < 32) (x : Int32) (i : Nat) : bt ((x.toUInt32 >>> ((nI n).toUInt32 &&& Int32.toUInt32 31)).toInt32) i = bt x (n + i) := by
  show (x.toUInt32 >>> ((nI n).toUInt32 &&& Int32.toUInt32 31)).toBitVec.getLsbD i = x.toUInt32.toBitVec.getLsbD (n + i)
  rw [UInt32.toBitVec_shiftRight]
  show (x.toUInt32.toBitVec >>> (((nI n).toUInt32 &&& Int32.toUInt32 31).toBitVec % 32).toNat).getLsbD i = _
  rw [s_u n hn, BitVec.getLsbD_ushiftRight]
theorem b_sshr (n : Nat) (hn : n < 32) (x : Int32) {i : Nat} (hi : i < 32) : bt (x >>> (nI n &&& 31)) i = if n + i < 32 then bt x (n + i) else bt x 31 := by
  unfold bt
  rw [Int32.toBitVec_shiftRight]
  show (x.toBitVec.sshiftRight ((nI n &&& 31).toBitVec.smod 32).toNat).getLsbD i = _
  rw [s_l n hn, BitVec.getLsbD_sshiftRight, BitVec.msb_eq_getLsbD_last]
  simp [hi]
theorem b_shl8 (x : Int32) {i : Nat} (hi : i < 32) : bt (x <<< ((8 : Int32) &&& 31)) i = (decide (8 ≤ i) && bt x (i - 8)) := b_shl 8 (by omega) x hi
theorem b_shl16 (x : Int32) {i : Nat} (hi : i < 32) : bt (x <<< ((16 : Int32) &&& 31)) i = (decide (16 ≤ i) && bt x (i - 16)) := b_shl 16 (by omega) x hi
theorem b_shl24 (x : Int32) {i : Nat} (hi : i < 32) : bt (x <<< ((24 : Int32) &&& 31)) i = (decide (24 ≤ i) && bt x (i - 24)) := b_shl 24 (by omega) x hi
theorem b_sshr8 (x : Int32) {i : Nat} (hi : i < 32) : bt (x >>> ((8 : Int32) &&& 31)) i = if 8 + i < 32 then bt x (8 + i) else bt x 31 := b_sshr 8 (by omega) x hi
/-! own rows: numbers with a sign, codes, arrays of naturals -/
def ri_z (k : Int) : Int32 := Int32.ofInt k
theorem ri_n (n : Nat) : nI n = ri_z (n : Int) := Int32.ofInt_eq_ofNat.symm
theorem ri_add (a b : Int) : ri_z a + ri_z b = ri_z (a + b) := (Int32.ofInt_add a b).symm
theorem ri_sub (a b : Int) : ri_z a - ri_z b = ri_z (a - b) := (Int32.ofInt_sub a b).symm
theorem ri_toInt {a : Int} (h1 : -2147483648 ≤ a) (h2 : a < 2147483648) : (ri_z a).toInt = a := Int32.toInt_ofInt_of_le (by omega) (by omega)
theorem ri_bl {x y : Int32} {A B : Prop} (a b : Int) (f : a ≤ b → A) (g : b < a → B) (hx : x = ri_z a) (hy : y = ri_z b) (ha : -2147483648 ≤ a ∧ a < 2147483648 := by omega) (hb : -2147483648 ≤ b ∧ b < 2147483648 := by omega) : (x ≤ y → A) ∧ (¬ x ≤ y → B) := by
  subst hx hy
  rw [Int32.le_iff_toInt_le, ri_toInt ha.1 ha.2, ri_toInt hb.1 hb.2]
  exact ⟨f, fun z => g (by omega)⟩
theorem ri_bt {x y : Int32} {A B : Prop} (a b : Int) (f : a < b → A) (g : b ≤ a → B) (hx : x = ri_z a) (hy : y = ri_z b) (ha : -2147483648 ≤ a ∧ a < 2147483648 := by omega) (hb : -2147483648 ≤ b ∧ b < 2147483648 := by omega) : (x < y → A) ∧ (¬ x < y → B) := by
  subst hx hy
  rw [Int32.lt_iff_toInt_lt, ri_toInt ha.1 ha.2, ri_toInt hb.1 hb.2]
  exact ⟨f, fun z => g (by omega)⟩
theorem ri_inj {a b : Int} (ha : -2147483648 ≤ a ∧ a < 2147483648) (hb : -2147483648 ≤ b ∧ b < 2147483648) : ri_z a = ri_z b ↔ a = b := by
  constructor
  · intro h
    have := congrArg Int32.toInt h
    rw [ri_toInt ha.1 ha.2, ri_toInt hb.1 hb.2] at this
    exact this
  · intro h; rw [h]
theorem ri_be {x y : Int32} {A B : Prop} (a b : Int) (f : a = b → A) (g : a ≠ b → B) (hx : x = ri_z a) (hy : y = ri_z b) (ha : -2147483648 ≤ a ∧ a < 2147483648 := by omega) (hb : -2147483648 ≤ b ∧ b < 2147483648 := by omega) : (x = y → A) ∧ (¬ x = y → B) := by
  subst hx hy
  rw [ri_inj ha hb]
  exact ⟨f, g⟩
theorem ri_m1 : (-1 : Int32) = ri_z (-1) := by decide
theorem ri_m2 : (-2 : Int32) = ri_z (-2) := by decide
theorem ri_m100 : (-100 : Int32) = ri_z (-100) := by decide
/-- codes: 0 for none, else one more than the number -/
def rn_c : Nat → Int32
  | 0 => -2
  | n + 1 => nI n
def rn_y : Nat → Int32
  | 0 => -1
  | n + 1 => nI n
def rn_h : Nat → Int32
  | 0 => -100
  | n + 1 => nI n
theorem rn_cz (n : Nat) : rn_c n = ri_z (if n = 0 then -2 else (n : Int) - 1) := by
  cases n with
  | zero => exact ri_m2
  | succ n =>
    rw [if_neg (by omega)]
    show nI n = _
    rw [ri_n]; congr 1; omega
theorem rn_yz (n : Nat) : rn_y n = ri_z (if n = 0 then -1 else (n : Int) - 1) := by
  cases n with
  | zero => exact ri_m1
  | succ n =>
    rw [if_neg (by omega)]
    show nI n = _
    rw [ri_n]; congr 1; omega
theorem rn_hz (n : Nat) : rn_h n = ri_z (if n = 0 then -100 else (n : Int) - 1) := by
  cases n with
  | zero => exact ri_m100
  | succ n =>
    rw [if_neg (by omega)]
    show nI n = _
    rw [ri_n]; congr 1; omega
theorem rn_c2 {n : Nat} (h : n < 2147483648) : rn_c n = -2 ↔ n = 0 := by
  rw [rn_cz, ri_m2, ri_inj (by split <;> omega) (by omega)]
  split <;> omega
theorem rn_ce {a b : Nat} (ha : a < 2147483648) (hb : b < 2147483648) : rn_c a = rn_c b ↔ a = b := by
  rw [rn_cz, rn_cz, ri_inj (by split <;> omega) (by split <;> omega)]
  split <;> split <;> omega
theorem rn_c0 {n : Nat} (h : n < 2147483648) : 0 ≤ rn_c n ↔ 0 < n := by
  rw [rn_cz, Int32.le_iff_toInt_le, ri_toInt (by split <;> omega) (by split <;> omega), show (0 : Int32).toInt = 0 from by decide]
  split <;> omega
theorem rn_cn {n : Nat} (h : n < 2147483648) : rn_c n < 0 ↔ n = 0 := by
  rw [rn_cz, Int32.lt_iff_toInt_lt, ri_toInt (by split <;> omega) (by split <;> omega), show (0 : Int32).toInt = 0 from by decide]
  split <;> omega
theorem rn_y0 {n : Nat} (h : n < 2147483648) : 0 ≤ rn_y n ↔ 0 < n := by
  rw [rn_yz, Int32.le_iff_toInt_le, ri_toInt (by split <;> omega) (by split <;> omega), show (0 : Int32).toInt = 0 from by decide]
  split <;> omega
theorem rn_yn {n : Nat} (h : n < 2147483648) : rn_y n < 0 ↔ n = 0 := by
  rw [rn_yz, Int32.lt_iff_toInt_lt, ri_toInt (by split <;> omega) (by split <;> omega), show (0 : Int32).toInt = 0 from by decide]
  split <;> omega
theorem rn_cs {n : Nat} (h : 0 < n) : rn_c n = nI (n - 1) := by
  cases n with
  | zero => omega
  | succ n => rfl
theorem rn_ys {n : Nat} (h : 0 < n) : rn_y n = nI (n - 1) := by
  cases n with
  | zero => omega
  | succ n => rfl
theorem rn_hs {n : Nat} (h : 0 < n) : rn_h n = nI (n - 1) := by
  cases n with
  | zero => omega
  | succ n => rfl
def rn_A (f : Nat → Nat) : Nat → Int32 := fun j => nI (f j)
def rn_B (f : Nat → Nat) : Nat → Int32 := fun j => rn_c (f j)
def rn_C (f : Nat → Nat) : Nat → Int32 := fun j => rn_h (f j)
/-- whether there are lanes -/
def rn_T (f : Nat → Nat) : Nat → Int32 := fun j => nI (if 0 < f j then 1 else 0)
def ru_p (T : Nat → Nat) (e x : Nat) : Nat → Nat := fun j => if j = e then x else T j
theorem ru_s {T : Nat → Nat} {e x : Nat} : ru_p T e x e = x := if_pos rfl
theorem ru_n {T : Nat → Nat} {e x j : Nat} (h : j ≠ e) : ru_p T e x j = T j := if_neg h
theorem rn_rA {f : Nat → Nat} {i : Nat} (h : i < 2 ^ 31) : rn_A f (nI i).toNatClampNeg = nI (f i) := by rw [nI_clamp h]; rfl
theorem rn_rB {f : Nat → Nat} {i : Nat} (h : i < 2 ^ 31) : rn_B f (nI i).toNatClampNeg = rn_c (f i) := by rw [nI_clamp h]; rfl
theorem rn_rC {f : Nat → Nat} {i : Nat} (h : i < 2 ^ 31) : rn_C f (nI i).toNatClampNeg = rn_h (f i) := by rw [nI_clamp h]; rfl
theorem rn_uA {f : Nat → Nat} {i x : Nat} (h : i < 2 ^ 31) : upd (rn_A f) (nI i).toNatClampNeg (nI x) = rn_A (ru_p f i x) := by
  rw [nI_clamp h]
  funext j
  unfold upd rn_A ru_p
  by_cases z : j = i
  · rw [if_pos z, if_pos z]
  · rw [if_neg z, if_neg z]
theorem rn_uB {f : Nat → Nat} {i x : Nat} (h : i < 2 ^ 31) : upd (rn_B f) (nI i).toNatClampNeg (rn_c x) = rn_B (ru_p f i x) := by
  rw [nI_clamp h]
  funext j
  unfold upd rn_B ru_p
  by_cases z : j = i
  · rw [if_pos z, if_pos z]
  · rw [if_neg z, if_neg z]
theorem rn_uC {f : Nat → Nat} {i x : Nat} (h : i < 2 ^ 31) : upd (rn_C f) (nI i).toNatClampNeg (rn_h x) = rn_C (ru_p f i x) := by
  rw [nI_clamp h]
  funext j
  unfold upd rn_C ru_p
  by_cases z : j = i
  · rw [if_pos z, if_pos z]
  · rw [if_neg z, if_neg z]
theorem rn_uT {f : Nat → Nat} {i x : Nat} (h : i < 2 ^ 31) (hx : 0 < x) : upd (rn_T f) (nI i).toNatClampNeg 1 = rn_T (ru_p f i x) := by
  rw [nI_clamp h]
  funext j
  unfold upd rn_T ru_p
  by_cases z : j = i
  · rw [if_pos z, if_pos z, if_pos hx]; rfl
  · rw [if_neg z, if_neg z]
/-- a truth as 0 or 1 -/
noncomputable def rb_ (P : Prop) : Int32 := @ite Int32 P (Classical.propDecidable P) 1 0
theorem rb_t {P : Prop} (h : P) : rb_ P = 1 := by unfold rb_; exact if_pos h
theorem rb_f {P : Prop} (h : ¬ P) : rb_ P = 0 := by unfold rb_; exact if_neg h
theorem rb_0 {P : Prop} : rb_ P = 0 ↔ ¬ P := by
  constructor
  · intro h p; rw [rb_t p] at h; exact absurd h (by decide)
  · exact rb_f
theorem rb_1 {P : Prop} : rb_ P = 1 ↔ P := by
  constructor
  · intro h
    apply Classical.byContradiction
    intro p; rw [rb_f p] at h; exact absurd h (by decide)
  · exact rb_t
theorem rb_e {P Q : Prop} (h : P ↔ Q) : rb_ P = rb_ Q := by
  rcases Classical.em P with p | p
  · rw [rb_t p, rb_t (h.mp p)]
  · rw [rb_f p, rb_f (fun q => p (h.mpr q))]
/-- one bit of a number -/
def rd_bt (k f : Nat) : Prop := k / 2 ^ f % 2 = 1
theorem rd_btI {k f : Nat} (hk : k < 65536) (hf : f < 32) : ((nI k) >>> (nI f &&& 31)) &&& 1 = nI (k / 2 ^ f % 2) := by
  rw [pk_shrN (by omega) (nI f &&& 31) f (s_l f hf), pk_andN (Nat.lt_of_le_of_lt (Nat.div_le_self _ _) (by omega)) 1 (by decide)]
theorem rd_bt1 {k f : Nat} (hk : k < 65536) (hf : f < 32) : ((nI k) >>> (nI f &&& 31)) &&& 1 = 1 ↔ rd_bt k f := by
  rw [rd_btI hk hf]
  unfold rd_bt
  exact nI_eq (a := k / 2 ^ f % 2) (b := 1) (by omega) (by omega)
/-- bits of a set of cars -/
theorem rd_st1 (x : Int32) {c : Nat} (hc : c < 32) : (x >>> (nI c &&& 31)) &&& 1 = 1 ↔ bt x c = true := by
  constructor
  · intro h
    have := b_and (x >>> (nI c &&& 31)) 1 0
    rw [h, b_sshr c hc x (by omega), if_pos (by omega)] at this
    have e : bt 1 0 = true := by decide
    rw [e] at this
    simpa using this.symm
  · intro h
    apply b_ext
    intro i hi
    rw [b_and]
    rcases Nat.eq_zero_or_pos i with z | z
    · subst z
      rw [b_sshr c hc x (by omega), if_pos (by omega), Nat.add_zero, h]
      decide
    · have e : bt 1 i = false := (by decide +kernel : ∀ i, i < 32 → 0 < i → bt 1 i = false) i hi z
      rw [e, Bool.and_false]
theorem rd_st0 (x : Int32) {c : Nat} (hc : c < 32) : (x >>> (nI c &&& 31)) &&& 1 = 0 ↔ bt x c = false := by
  constructor
  · intro h
    rcases hb : bt x c with _ | _
    · rfl
    · have := (rd_st1 x hc).mpr hb
      rw [h] at this
      exact absurd this (by decide)
  · intro h
    apply b_ext
    intro i hi
    rw [b_and, b_0]
    rcases Nat.eq_zero_or_pos i with z | z
    · subst z
      rw [b_sshr c hc x (by omega), if_pos (by omega), Nat.add_zero, h]
      rfl
    · have e : bt 1 i = false := (by decide +kernel : ∀ i, i < 32 → 0 < i → bt 1 i = false) i hi z
      rw [e, Bool.and_false]
theorem rd_sto (x : Int32) {c i : Nat} (hc : c < 32) (hi : i < 32) : bt (x ||| ((1 : Int32) <<< (nI c &&& 31))) i = (bt x i || decide (i = c)) := by
  rw [b_or, b_shl c hc 1 hi]
  congr 1
  by_cases z : i = c
  · subst z
    rw [Nat.sub_self, decide_eq_true (Nat.le_refl _), decide_eq_true rfl]
    decide
  · rw [decide_eq_false z]
    by_cases w : c ≤ i
    · have e : bt 1 (i - c) = false := (by decide +kernel : ∀ i, i < 32 → 0 < i → bt 1 i = false) (i - c) (by omega) (by omega)
      rw [e, Bool.and_false]
    · rw [decide_eq_false w, Bool.false_and]
