section
theorem pk_us {f : Nat → Int32} {k : Nat} {x : Int32} : upd f k x k = x := if_pos rfl
theorem pk_un {f : Nat → Int32} {k j : Nat} {x : Int32} (h : j ≠ k) : upd f k x j = f j := if_neg h
theorem pk_sub {a b : Nat} (h : b ≤ a) : nI a - nI b = nI (a - b) := by
  obtain ⟨c, rfl⟩ : ∃ c, a = c + b := ⟨a - b, by omega⟩
  rw [← nI_add, Int32.add_sub_cancel, Nat.add_sub_cancel]
theorem pk_m1 (n : Nat) : nI (n + 1) + (-1) = nI n := by
  rw [← nI_1, Int32.add_assoc, show (1 : Int32) + (-1) = 0 from rfl, Int32.add_zero]
theorem pk_mul (a b : Nat) : nI a * nI b = nI (a * b) := (Int32.ofNat_mul a b).symm
theorem pk_div {a d : Nat} (ha : a < 2 ^ 31) (h0 : 0 < d) (hd : d < 2 ^ 31) : nI a / nI d = nI (a / d) := by
  apply Int32.toInt_inj.mp
  rw [lg_idiv_nonneg (by rw [nI_toInt ha]; omega) (by rw [nI_toInt hd]; omega), nI_toInt ha, nI_toInt hd, nI_toInt (Nat.lt_of_le_of_lt (Nat.div_le_self a d) ha)]
  first | rfl | exact (Int.natCast_ediv _ _).symm
theorem pk_rem {a d : Nat} (ha : a < 2 ^ 31) (h0 : 0 < d) (hd : d < 2 ^ 31) : nI a - nI a / nI d * nI d = nI (a % d) := by
  rw [pk_div ha h0 hd, pk_mul, pk_sub (Nat.div_mul_le_self a d)]
  exact congrArg nI (by have := Nat.div_add_mod' a d; omega)
theorem pk_sub_toInt {a b : Nat} (ha : a < 2 ^ 30) (hb : b < 2 ^ 30) : (nI a - nI b).toInt = (a : Int) - b := by
  rw [Int32.toInt_sub, nI_toInt (by omega), nI_toInt (by omega)]
  exact Int.bmod_eq_of_le (by omega) (by omega)
theorem pk_sneg {a b : Nat} (hb : b < 2 ^ 30) (h : a < b) : nI a - nI b < 0 := by
  rw [Int32.lt_iff_toInt_lt, pk_sub_toInt (by omega) hb, show (0 : Int32).toInt = 0 from by decide]
  omega
theorem pk_ix (x : Int32) {n : Nat} (hn : n < 2 ^ 31) : x < 0 ∨ nI n ≤ x ∨ ∃ j : Nat, j < n ∧ x = nI j := by
  by_cases h : x < 0
  · exact Or.inl h
  · obtain ⟨j, hj, rfl⟩ := nI_of h
    by_cases h2 : j < n
    · exact Or.inr (Or.inr ⟨j, h2, rfl⟩)
    · exact Or.inr (Or.inl (nI_le (by omega) hj))
theorem pk_le {x y : Int32} {A B : Prop} (a b : Nat) (f : a ≤ b → A) (g : b < a → B) (hx : x = nI a := by rfl) (hy : y = nI b := by rfl) (ha : a < 2 ^ 31 := by omega) (hb : b < 2 ^ 31 := by omega) : (x ≤ y → A) ∧ (¬ x ≤ y → B) := by
  subst hx hy
  rw [nI_leI ha hb]
  exact ⟨f, fun z => g (by omega)⟩
theorem pk_lt {x y : Int32} {A B : Prop} (a b : Nat) (f : a < b → A) (g : b ≤ a → B) (hx : x = nI a := by rfl) (hy : y = nI b := by rfl) (ha : a < 2 ^ 31 := by omega) (hb : b < 2 ^ 31 := by omega) : (x < y → A) ∧ (¬ x < y → B) := by
  subst hx hy
  rw [nI_ltI ha hb]
  exact ⟨f, fun z => g (by omega)⟩
theorem pk_eq {x y : Int32} {A B : Prop} (a b : Nat) (f : a = b → A) (g : a ≠ b → B) (hx : x = nI a := by rfl) (hy : y = nI b := by rfl) (ha : a < 2 ^ 31 := by omega) (hb : b < 2 ^ 31 := by omega) : (x = y → A) ∧ (¬ x = y → B) := by
  subst hx hy
  rw [nI_eq ha hb]
  exact ⟨f, g⟩
theorem pk_in {x : Int32} (n N : Nat) (h : n < N) (hx : x = nI n := by rfl) (hN : N < 2 ^ 31 := by omega) : vp_in x N := by
  subst hx
  exact vp_in_nI h hN
theorem pk_cl {x : Int32} (n : Nat) (hx : x = nI n := by rfl) (h : n < 2 ^ 31 := by omega) : x.toNatClampNeg = n := by
  subst hx
  exact nI_clamp h
theorem pk_tn {n : Nat} (h : n < 2 ^ 32) : (nI n).toBitVec.toNat = n := Nat.mod_eq_of_lt h
theorem pk_and (x : Int32) {m : Int32} (k : Nat) (hm : m.toBitVec.toNat = 2 ^ k - 1) : x &&& m = nI (x.toBitVec.toNat % 2 ^ k) := by
  apply Int32.toBitVec_inj.mp
  apply BitVec.eq_of_toNat_eq
  rw [Int32.toBitVec_and, BitVec.toNat_and, hm, Nat.and_two_pow_sub_one_eq_mod]
  show _ = (BitVec.ofNat 32 _).toNat
  rw [BitVec.toNat_ofNat]
  exact (Nat.mod_eq_of_lt (Nat.lt_of_le_of_lt (Nat.mod_le _ _) x.toBitVec.isLt)).symm
theorem pk_andN {n : Nat} (h : n < 2 ^ 32) {m : Int32} (k : Nat) (hm : m.toBitVec.toNat = 2 ^ k - 1) : nI n &&& m = nI (n % 2 ^ k) := by
  rw [pk_and _ k hm, pk_tn h]
theorem pk_andE (x : Int32) {m : Int32} (k : Nat) (hm : m.toBitVec.toNat = 2 ^ k - 1) : ∃ j : Nat, j < 2 ^ k ∧ x &&& m = nI j := ⟨_, Nat.mod_lt _ (Nat.two_pow_pos k), pk_and x k hm⟩
theorem pk_andIn (x : Int32) {m : Int32} (k : Nat) (hm : m.toBitVec.toNat = 2 ^ k - 1) (hk : k ≤ 30) : vp_in (x &&& m) (2 ^ k) := by
  obtain ⟨j, hj, e⟩ := pk_andE x k hm
  rw [e]
  exact vp_in_nI hj (Nat.lt_of_le_of_lt (Nat.pow_le_pow_right (by decide) hk) (by decide))
theorem pk_shl (a s : Int32) (k : Nat) (hs : (s.toBitVec.smod 32).toNat = k) : (a <<< s).toBitVec.toNat = a.toBitVec.toNat * 2 ^ k % 2 ^ 32 := by
  show (a.toBitVec <<< (s.toBitVec.smod 32).toNat).toNat = _
  rw [hs, BitVec.toNat_shiftLeft, Nat.shiftLeft_eq]
theorem pk_shlN {n : Nat} (s : Int32) (k : Nat) (hs : (s.toBitVec.smod 32).toNat = k) (h : n * 2 ^ k < 2 ^ 32) : nI n <<< s = nI (n * 2 ^ k) := by
  apply Int32.toBitVec_inj.mp
  apply BitVec.eq_of_toNat_eq
  have hn : n < 2 ^ 32 := Nat.lt_of_le_of_lt (Nat.le_mul_of_pos_right n (Nat.two_pow_pos k)) h
  rw [pk_shl _ _ k hs, pk_tn hn, pk_tn h, Nat.mod_eq_of_lt h]
theorem pk_shr (a s : Int32) (k : Nat) (hs : (s.toBitVec.smod 32).toNat = k) : (a >>> s).toInt = a.toInt >>> k := by
  show (a.toBitVec.sshiftRight (s.toBitVec.smod 32).toNat).toInt = _
  rw [hs, BitVec.toInt_sshiftRight]
  rfl
theorem pk_shrN {n : Nat} (h : n < 2 ^ 31) (s : Int32) (k : Nat) (hs : (s.toBitVec.smod 32).toNat = k) : nI n >>> s = nI (n / 2 ^ k) := by
  apply Int32.toInt_inj.mp
  have h2 : n / 2 ^ k ≤ n := Nat.div_le_self _ _
  rw [pk_shr _ _ k hs, nI_toInt h, nI_toInt (by omega), Int.shiftRight_eq_div_pow]
  rfl
theorem pk_ushr (x s : Int32) (k : Nat) (hs : ((s.toUInt32 &&& Int32.toUInt32 31).toBitVec % 32).toNat = k) : (x.toUInt32 >>> (s.toUInt32 &&& Int32.toUInt32 31)).toInt32.toBitVec.toNat = x.toBitVec.toNat / 2 ^ k := by
  have e : (x.toUInt32 >>> (s.toUInt32 &&& Int32.toUInt32 31)).toInt32.toBitVec = x.toBitVec >>> k := by
    rw [← hs]
    exact UInt32.toBitVec_shiftRight _ _
  rw [e, BitVec.toNat_ushiftRight, Nat.shiftRight_eq_div_pow]
theorem pk_ushrN {n : Nat} (hn : n < 2 ^ 32) (s : Int32) (k : Nat) (hs : ((s.toUInt32 &&& Int32.toUInt32 31).toBitVec % 32).toNat = k) : ((nI n).toUInt32 >>> (s.toUInt32 &&& Int32.toUInt32 31)).toInt32 = nI (n / 2 ^ k) := by
  apply Int32.toBitVec_inj.mp
  apply BitVec.eq_of_toNat_eq
  rw [pk_ushr _ s k hs, pk_tn hn, pk_tn (Nat.lt_of_le_of_lt (Nat.div_le_self _ _) hn)]
theorem pk_loop {σ : Type} (W : Nat → Nat → σ → Prop) (I : Nat → σ → Prop) (e i0 : Nat) (s : σ) (hi : i0 ≤ e) (h0 : I i0 s) (hx : ∀ n s, I e s → W (n + 1) e s)
    (hs : ∀ n i s, i < e → I i s → (∀ s', I (i + 1) s' → W n (i + 1) s') → W (n + 1) i s) : ∃ n, W n i0 s :=
  ⟨e + 1, loop_i W I e hx hs (e + 1) i0 s hi (by omega) h0⟩
theorem pk_loopD {σ : Type} (W : Nat → Nat → σ → Prop) (I : Nat → σ → Prop) (hx : ∀ n s, I 0 s → W (n + 1) 0 s)
    (hs : ∀ n i s, I (i + 1) s → (∀ s', I i s' → W n i s') → W (n + 1) (i + 1) s) : ∀ (e : Nat) (s : σ), I e s → W (e + 1) e s := by
  intro e
  induction e with
  | zero => exact fun s h => hx 0 s h
  | succ e ih => exact fun s h => hs (e + 1) e s h (fun s' h' => ih s' h')
theorem pk_least (P : Nat → Prop) (h : ∃ k, P k) : ∃ k, P k ∧ ∀ j, j < k → ¬ P j := by
  obtain ⟨k, hk⟩ := h
  induction k using Nat.strongRecOn with
  | ind k ih =>
    by_cases e : ∃ j, j < k ∧ P j
    · obtain ⟨j, hj, pj⟩ := e
      exact ih j hj pj
    · exact ⟨k, hk, fun j hj pj => e ⟨j, hj, pj⟩⟩
theorem ek_if {c d A B : Prop} (e : c ↔ d) (f : d → A) (g : ¬ d → B) : (c → A) ∧ (¬ c → B) :=
  ⟨fun z => f (e.mp z), fun z => g (fun y => z (e.mpr y))⟩
theorem ek_v {α : Sort _} {P : α → Prop} {a b : α} (e : a = b) (h : P b) : P a := e ▸ h
def bt (x : Int32) (i : Nat) : Bool := x.toBitVec.getLsbD i
theorem b_ext {x y : Int32} (h : ∀ i, i < 32 → bt x i = bt y i) : x = y := Int32.toBitVec_inj.mp (BitVec.eq_of_getLsbD_eq (fun i hi => h i hi))
theorem b_or (x y : Int32) (i : Nat) : bt (x ||| y) i = (bt x i || bt y i) := by unfold bt; rw [Int32.toBitVec_or, BitVec.getLsbD_or]
theorem b_and (x y : Int32) (i : Nat) : bt (x &&& y) i = (bt x i && bt y i) := by unfold bt; rw [Int32.toBitVec_and, BitVec.getLsbD_and]
theorem b_xor (x y : Int32) (i : Nat) : bt (x ^^^ y) i = (bt x i ^^ bt y i) := by unfold bt; rw [Int32.toBitVec_xor, BitVec.getLsbD_xor]
theorem b_big {x : Int32} {i : Nat} (h : 32 ≤ i) : bt x i = false := BitVec.getLsbD_of_ge _ _ h
theorem b_255 (i : Nat) : bt 255 i = decide (i < 8) := by
  rcases Nat.lt_or_ge i 32 with h | h
  · exact (by decide +kernel : ∀ i, i < 32 → bt 255 i = decide (i < 8)) i h
  · rw [b_big h, decide_eq_false (by omega)]
theorem b_65535 (i : Nat) : bt 65535 i = decide (i < 16) := by
  rcases Nat.lt_or_ge i 32 with h | h
  · exact (by decide +kernel : ∀ i, i < 32 → bt 65535 i = decide (i < 16)) i h
  · rw [b_big h, decide_eq_false (by omega)]
theorem b_m1 : ∀ i, i < 32 → bt (-1) i = true := by decide +kernel
theorem b_0 (i : Nat) : bt 0 i = false := BitVec.getLsbD_zero
theorem s_l : ∀ n, n < 32 → ((nI n &&& 31).toBitVec.smod 32).toNat = n := by decide +kernel
theorem s_u : ∀ n, n < 32 → (((nI n).toUInt32 &&& Int32.toUInt32 31).toBitVec % 32).toNat = n := by decide +kernel
theorem b_shl (n : Nat) (hn : n < 32) (x : Int32) {i : Nat} (hi : i < 32) : bt (x <<< (nI n &&& 31)) i = (decide (n ≤ i) && bt x (i - n)) := by
  unfold bt
  rw [Int32.toBitVec_shiftLeft]
  show (x.toBitVec <<< ((nI n &&& 31).toBitVec.smod 32).toNat).getLsbD i = _
  rw [s_l n hn, BitVec.getLsbD_shiftLeft]
  rcases Nat.lt_or_ge i n with h | h
  · simp [h, Nat.not_le.mpr h]
  · simp [hi, h, Nat.not_lt.mpr h]
theorem b_ushr (n : Nat) (hn : n < 32) (x : Int32) (i : Nat) : bt ((x.toUInt32 >>> ((nI n).toUInt32 &&& Int32.toUInt32 31)).toInt32) i = bt x (n + i) := by
  show (x.toUInt32 >>> ((nI n).toUInt32 &&& Int32.toUInt32 31)).toBitVec.getLsbD i = x.toUInt32.toBitVec.getLsbD (n + i)
  rw [UInt32.toBitVec_shiftRight]
  show (x.toUInt32.toBitVec >>> (((nI n).toUInt32 &&& Int32.toUInt32 31).toBitVec % 32).toNat).getLsbD i = _
  rw [s_u n hn, BitVec.getLsbD_ushiftRight]
theorem b_sshr (n : Nat) (hn : n < 32) (x : Int32) {i : Nat} (hi : i < 32) : bt (x >>> (nI n &&& 31)) i = if n + i < 32 then bt x (n + i) else bt x 31 := by
  unfold bt
  rw [Int32.toBitVec_shiftRight]
  show (x.toBitVec.sshiftRight ((nI n &&& 31).toBitVec.smod 32).toNat).getLsbD i = _
  rw [s_l n hn, BitVec.getLsbD_sshiftRight, BitVec.msb_eq_getLsbD_last]
  simp [hi]
theorem b_shl8 (x : Int32) {i : Nat} (hi : i < 32) : bt (x <<< ((8 : Int32) &&& 31)) i = (decide (8 ≤ i) && bt x (i - 8)) := b_shl 8 (by omega) x hi
theorem b_shl16 (x : Int32) {i : Nat} (hi : i < 32) : bt (x <<< ((16 : Int32) &&& 31)) i = (decide (16 ≤ i) && bt x (i - 16)) := b_shl 16 (by omega) x hi
theorem b_shl24 (x : Int32) {i : Nat} (hi : i < 32) : bt (x <<< ((24 : Int32) &&& 31)) i = (decide (24 ≤ i) && bt x (i - 24)) := b_shl 24 (by omega) x hi
theorem b_sshr8 (x : Int32) {i : Nat} (hi : i < 32) : bt (x >>> ((8 : Int32) &&& 31)) i = if 8 + i < 32 then bt x (8 + i) else bt x 31 := b_sshr 8 (by omega) x hi
/-! own rows: numbers with a sign, codes, arrays of naturals -/
def ri_z (k : Int) : Int32 := Int32.ofInt k
theorem ri_n (n : Nat) : nI n = ri_z (n : Int) := Int32.ofInt_eq_ofNat.symm
theorem ri_add (a b : Int) : ri_z a + ri_z b = ri_z (a + b) := (Int32.ofInt_add a b).symm
theorem ri_sub (a b : Int) : ri_z a - ri_z b = ri_z (a - b) := (Int32.ofInt_sub a b).symm
theorem ri_toInt {a : Int} (h1 : -2147483648 ≤ a) (h2 : a < 2147483648) : (ri_z a).toInt = a := Int32.toInt_ofInt_of_le (by omega) (by omega)
theorem ri_bl {x y : Int32} {A B : Prop} (a b : Int) (f : a ≤ b → A) (g : b < a → B) (hx : x = ri_z a) (hy : y = ri_z b) (ha : -2147483648 ≤ a ∧ a < 2147483648 := by omega) (hb : -2147483648 ≤ b ∧ b < 2147483648 := by omega) : (x ≤ y → A) ∧ (¬ x ≤ y → B) := by
  subst hx hy
  rw [Int32.le_iff_toInt_le, ri_toInt ha.1 ha.2, ri_toInt hb.1 hb.2]
  exact ⟨f, fun z => g (by omega)⟩
theorem ri_bt {x y : Int32} {A B : Prop} (a b : Int) (f : a < b → A) (g : b ≤ a → B) (hx : x = ri_z a) (hy : y = ri_z b) (ha : -2147483648 ≤ a ∧ a < 2147483648 := by omega) (hb : -2147483648 ≤ b ∧ b < 2147483648 := by omega) : (x < y → A) ∧ (¬ x < y → B) := by
  subst hx hy
  rw [Int32.lt_iff_toInt_lt, ri_toInt ha.1 ha.2, ri_toInt hb.1 hb.2]
  exact ⟨f, fun z => g (by omega)⟩
theorem ri_inj {a b : Int} (ha : -2147483648 ≤ a ∧ a < 2147483648) (hb : -2147483648 ≤ b ∧ b < 2147483648) : ri_z a = ri_z b ↔ a = b := by
  constructor
  · intro h
    have := congrArg Int32.toInt h
    rw [ri_toInt ha.1 ha.2, ri_toInt hb.1 hb.2] at this
    exact this
  · intro h; rw [h]
theorem ri_be {x y : Int32} {A B : Prop} (a b : Int) (f : a = b → A) (g : a ≠ b → B) (hx : x = ri_z a) (hy : y = ri_z b) (ha : -2147483648 ≤ a ∧ a < 2147483648 := by omega) (hb : -2147483648 ≤ b ∧ b < 2147483648 := by omega) : (x = y → A) ∧ (¬ x = y → B) := by
  subst hx hy
  rw [ri_inj ha hb]
  exact ⟨f, g⟩
theorem ri_m1 : (-1 : Int32) = ri_z (-1) := by decide
theorem ri_m2 : (-2 : Int32) = ri_z (-2) := by decide
theorem ri_m100 : (-100 : Int32) = ri_z (-100) := by decide
/-- codes: 0 for none, else one more than the number -/
def rn_c : Nat → Int32
  | 0 => -2
  | n + 1 => nI n
def rn_y : Nat → Int32
  | 0 => -1
  | n + 1 => nI n
def rn_h : Nat → Int32
  | 0 => -100
  | n + 1 => nI n
theorem rn_cz (n : Nat) : rn_c n = ri_z (if n = 0 then -2 else (n : Int) - 1) := by
  cases n with
  | zero => exact ri_m2
  | succ n =>
    rw [if_neg (by omega)]
    show nI n = _
    rw [ri_n]; congr 1; omega
theorem rn_yz (n : Nat) : rn_y n = ri_z (if n = 0 then -1 else (n : Int) - 1) := by
  cases n with
  | zero => exact ri_m1
  | succ n =>
    rw [if_neg (by omega)]
    show nI n = _
    rw [ri_n]; congr 1; omega
theorem rn_hz (n : Nat) : rn_h n = ri_z (if n = 0 then -100 else (n : Int) - 1) := by
  cases n with
  | zero => exact ri_m100
  | succ n =>
    rw [if_neg (by omega)]
    show nI n = _
    rw [ri_n]; congr 1; omega
theorem rn_c2 {n : Nat} (h : n < 2147483648) : rn_c n = -2 ↔ n = 0 := by
  rw [rn_cz, ri_m2, ri_inj (by split <;> omega) (by omega)]
  split <;> omega
theorem rn_ce {a b : Nat} (ha : a < 2147483648) (hb : b < 2147483648) : rn_c a = rn_c b ↔ a = b := by
  rw [rn_cz, rn_cz, ri_inj (by split <;> omega) (by split <;> omega)]
  split <;> split <;> omega
theorem rn_c0 {n : Nat} (h : n < 2147483648) : 0 ≤ rn_c n ↔ 0 < n := by
  rw [rn_cz, Int32.le_iff_toInt_le, ri_toInt (by split <;> omega) (by split <;> omega), show (0 : Int32).toInt = 0 from by decide]
  split <;> omega
theorem rn_cn {n : Nat} (h : n < 2147483648) : rn_c n < 0 ↔ n = 0 := by
  rw [rn_cz, Int32.lt_iff_toInt_lt, ri_toInt (by split <;> omega) (by split <;> omega), show (0 : Int32).toInt = 0 from by decide]
  split <;> omega
theorem rn_y0 {n : Nat} (h : n < 2147483648) : 0 ≤ rn_y n ↔ 0 < n := by
  rw [rn_yz, Int32.le_iff_toInt_le, ri_toInt (by split <;> omega) (by split <;> omega), show (0 : Int32).toInt = 0 from by decide]
  split <;> omega
theorem rn_yn {n : Nat} (h : n < 2147483648) : rn_y n < 0 ↔ n = 0 := by
  rw [rn_yz, Int32.lt_iff_toInt_lt, ri_toInt (by split <;> omega) (by split <;> omega), show (0 : Int32).toInt = 0 from by decide]
  split <;> omega
theorem rn_cs {n : Nat} (h : 0 < n) : rn_c n = nI (n - 1) := by
  cases n with
  | zero => omega
  | succ n => rfl
theorem rn_ys {n : Nat} (h : 0 < n) : rn_y n = nI (n - 1) := by
  cases n with
  | zero => omega
  | succ n => rfl
theorem rn_hs {n : Nat} (h : 0 < n) : rn_h n = nI (n - 1) := by
  cases n with
  | zero => omega
  | succ n => rfl
def rn_A (f : Nat → Nat) : Nat → Int32 := fun j => nI (f j)
def rn_B (f : Nat → Nat) : Nat → Int32 := fun j => rn_c (f j)
def rn_C (f : Nat → Nat) : Nat → Int32 := fun j => rn_h (f j)
/-- whether there are lanes -/
def rn_T (f : Nat → Nat) : Nat → Int32 := fun j => nI (if 0 < f j then 1 else 0)
def ru_p (T : Nat → Nat) (e x : Nat) : Nat → Nat := fun j => if j = e then x else T j
theorem ru_s {T : Nat → Nat} {e x : Nat} : ru_p T e x e = x := if_pos rfl
theorem ru_n {T : Nat → Nat} {e x j : Nat} (h : j ≠ e) : ru_p T e x j = T j := if_neg h
theorem rn_rA {f : Nat → Nat} {i : Nat} (h : i < 2 ^ 31) : rn_A f (nI i).toNatClampNeg = nI (f i) := by rw [nI_clamp h]; rfl
theorem rn_rB {f : Nat → Nat} {i : Nat} (h : i < 2 ^ 31) : rn_B f (nI i).toNatClampNeg = rn_c (f i) := by rw [nI_clamp h]; rfl
theorem rn_rC {f : Nat → Nat} {i : Nat} (h : i < 2 ^ 31) : rn_C f (nI i).toNatClampNeg = rn_h (f i) := by rw [nI_clamp h]; rfl
theorem rn_uA {f : Nat → Nat} {i x : Nat} (h : i < 2 ^ 31) : upd (rn_A f) (nI i).toNatClampNeg (nI x) = rn_A (ru_p f i x) := by
  rw [nI_clamp h]
  funext j
  unfold upd rn_A ru_p
  by_cases z : j = i
  · rw [if_pos z, if_pos z]
  · rw [if_neg z, if_neg z]
theorem rn_uB {f : Nat → Nat} {i x : Nat} (h : i < 2 ^ 31) : upd (rn_B f) (nI i).toNatClampNeg (rn_c x) = rn_B (ru_p f i x) := by
  rw [nI_clamp h]
  funext j
  unfold upd rn_B ru_p
  by_cases z : j = i
  · rw [if_pos z, if_pos z]
  · rw [if_neg z, if_neg z]
theorem rn_uC {f : Nat → Nat} {i x : Nat} (h : i < 2 ^ 31) : upd (rn_C f) (nI i).toNatClampNeg (rn_h x) = rn_C (ru_p f i x) := by
  rw [nI_clamp h]
  funext j
  unfold upd rn_C ru_p
  by_cases z : j = i
  · rw [if_pos z, if_pos z]
  · rw [if_neg z, if_neg z]
theorem rn_uT {f : Nat → Nat} {i x : Nat} (h : i < 2 ^ 31) (hx : 0 < x) : upd (rn_T f) (nI i).toNatClampNeg 1 = rn_T (ru_p f i x) := by
  rw [nI_clamp h]
  funext j
  unfold upd rn_T ru_p
  by_cases z : j = i
  · rw [if_pos z, if_pos z, if_pos hx]; rfl
  · rw [if_neg z, if_neg z]
/-- a truth as 0 or 1 -/
noncomputable def rb_ (P : Prop) : Int32 := @ite Int32 P (Classical.propDecidable P) 1 0
theorem rb_t {P : Prop} (h : P) : rb_ P = 1 := by unfold rb_; exact if_pos h
theorem rb_f {P : Prop} (h : ¬ P) : rb_ P = 0 := by unfold rb_; exact if_neg h
theorem rb_0 {P : Prop} : rb_ P = 0 ↔ ¬ P := by
  constructor
  · intro h p; rw [rb_t p] at h; exact absurd h (by decide)
  · exact rb_f
theorem rb_1 {P : Prop} : rb_ P = 1 ↔ P := by
  constructor
  · intro h
    apply Classical.byContradiction
    intro p; rw [rb_f p] at h; exact absurd h (by decide)
  · exact rb_t
theorem rb_e {P Q : Prop} (h : P ↔ Q) : rb_ P = rb_ Q := by
  rcases Classical.em P with p | p
  · rw [rb_t p, rb_t (h.mp p)]
  · rw [rb_f p, rb_f (fun q => p (h.mpr q))]
/-- one bit of a number -/
def rd_bt (k f : Nat) : Prop := k / 2 ^ f % 2 = 1
theorem rd_btI {k f : Nat} (hk : k < 65536) (hf : f < 32) : ((nI k) >>> (nI f &&& 31)) &&& 1 = nI (k / 2 ^ f % 2) := by
  rw [pk_shrN (by omega) (nI f &&& 31) f (s_l f hf), pk_andN (Nat.lt_of_le_of_lt (Nat.div_le_self _ _) (by omega)) 1 (by decide)]
theorem rd_bt1 {k f : Nat} (hk : k < 65536) (hf : f < 32) : ((nI k) >>> (nI f &&& 31)) &&& 1 = 1 ↔ rd_bt k f := by
  rw [rd_btI hk hf]
  unfold rd_bt
  exact nI_eq (a := k / 2 ^ f % 2) (b := 1) (by omega) (by omega)
/-- bits of a set of cars -/
theorem rd_st1 (x : Int32) {c : Nat} (hc : c < 32) : (x >>> (nI c &&& 31)) &&& 1 = 1 ↔ bt x c = true := by
  constructor
  · intro h
    have := b_and (x >>> (nI c &&& 31)) 1 0
    rw [h, b_sshr c hc x (by omega), if_pos (by omega)] at this
    have e : bt 1 0 = true := by decide
    rw [e] at this
    simpa using this.symm
  · intro h
    apply b_ext
    intro i hi
    rw [b_and]
    rcases Nat.eq_zero_or_pos i with z | z
    · subst z
      rw [b_sshr c hc x (by omega), if_pos (by omega), Nat.add_zero, h]
      decide
    · have e : bt 1 i = false := (by decide +kernel : ∀ i, i < 32 → 0 < i → bt 1 i = false) i hi z
      rw [e, Bool.and_false]
theorem rd_st0 (x : Int32) {c : Nat} (hc : c < 32) : (x >>> (nI c &&& 31)) &&& 1 = 0 ↔ bt x c = false := by
  constructor
  · intro h
    rcases hb : bt x c with _ | _
    · rfl
    · have := (rd_st1 x hc).mpr hb
      rw [h] at this
      exact absurd this (by decide)
  · intro h
    apply b_ext
    intro i hi
    rw [b_and, b_0]
    rcases Nat.eq_zero_or_pos i with z | z
    · subst z
      rw [b_sshr c hc x (by omega), if_pos (by omega), Nat.add_zero, h]
      rfl
    · have e : bt 1 i = false := (by decide +kernel : ∀ i, i < 32 → 0 < i → bt 1 i = false) i hi z
      rw [e, Bool.and_false]
theorem rd_sto (x : Int32) {c i : Nat} (hc : c < 32) (hi : i < 32) : bt (x ||| ((1 : Int32) <<< (nI c &&& 31))) i = (bt x i || decide (i = c)) := by
  rw [b_or, b_shl c hc 1 hi]
  congr 1
  by_cases z : i = c
  · subst z
    rw [Nat.sub_self, decide_eq_true (Nat.le_refl _), decide_eq_true rfl]
    decide
  · rw [decide_eq_false z]
    by_cases w : c ≤ i
    · have e : bt 1 (i - c) = false := (by decide +kernel : ∀ i, i < 32 → 0 < i → bt 1 i = false) (i - c) (by omega) (by omega)
      rw [e, Bool.and_false]
    · rw [decide_eq_false w, Bool.false_and]
end
section
/-! the ways to one goal: T, the least costs, 1000000 for none; K e f: e is there and a lane of it leads to f, which is there and not shut -/
def ry_Sup (K : Nat → Nat → Prop) (co : Nat → Nat) (g : Nat) (tg : Prop) (T : Nat → Nat) : Prop :=
  (∀ e, e < 16 → T e ≤ 1000000) ∧ (tg → T g = 0) ∧ (¬ tg → T g = 1000000) ∧
  (∀ e, e < 16 → e ≠ g → T e < 1000000 → ∃ f, f < 16 ∧ K e f ∧ T f < 1000000 ∧ T f + co f ≤ T e)
def ry_A (K : Nat → Nat → Prop) (co : Nat → Nat) (g : Nat) (T : Nat → Nat) : Prop :=
  ∀ e f, e < 16 → f < 16 → e ≠ g → K e f → T f < 1000000 → T e ≤ T f + co f
def ry_Bel (K : Nat → Nat → Prop) (co : Nat → Nat) (g : Nat) (tg : Prop) (T : Nat → Nat) : Prop :=
  ry_Sup K co g tg T ∧ ry_A K co g T
section
variable {K : Nat → Nat → Prop} {co : Nat → Nat} {g : Nat} {tg : Prop} {T T' δ : Nat → Nat}
theorem ry_eq (h : ry_Bel K co g tg T) {e : Nat} (he : e < 16) (hg : e ≠ g) (ht : T e < 1000000) : ∃ f, f < 16 ∧ K e f ∧ T f < 1000000 ∧ T e = T f + co f := by
  obtain ⟨⟨_, _, _, h4⟩, hA⟩ := h
  obtain ⟨f, f1, f2, f3, f4⟩ := h4 e he hg ht
  have := hA e f he f1 hg f2 f3
  exact ⟨f, f1, f2, f3, by omega⟩
theorem ry_le (hc : ∀ e f, K e f → 1 ≤ co f) (h : ry_Bel K co g tg T) (h' : ry_Bel K co g tg T') : ∀ t e, e < 16 → T e < t → T' e ≤ T e := by
  intro t
  induction t with
  | zero => intro e _ ht; omega
  | succ t ih =>
    intro e he ht
    rcases Nat.lt_or_ge (T e) 1000000 with k | k
    · rcases Nat.decEq e g with q | q
      · obtain ⟨f, f1, f2, f3, f4⟩ := ry_eq h he q k
        have c1 := hc e f f2
        have i1 := ih f f1 (by omega)
        have := h'.2 e f he f1 q f2 (by omega)
        omega
      · subst q
        rcases Classical.em tg with z | z
        · have := h'.1.2.1 z; omega
        · have := h.1.2.2.1 z; omega
    · have := h'.1.1 e he; omega
theorem ry_uni (hc : ∀ e f, K e f → 1 ≤ co f) (h : ry_Bel K co g tg T) (h' : ry_Bel K co g tg T') {e : Nat} (he : e < 16) : T e = T' e :=
  Nat.le_antisymm (ry_le hc h' h (T' e + 1) e he (by omega)) (ry_le hc h h' (T e + 1) e he (by omega))
theorem ry_SupU (h : ry_Sup K co g tg T) {e f : Nat} (he : e < 16) (hf : f < 16) (hg : e ≠ g) (hK : K e f) (ht : T f < 1000000) (hl : T f + co f < T e) : ry_Sup K co g tg (ru_p T e (T f + co f)) := by
  obtain ⟨h1, h2, h3, h4⟩ := h
  have hfe : f ≠ e := by intro z; subst z; omega
  have hb := h1 e he
  refine ⟨fun j hj => ?_, fun z => ?_, fun z => ?_, fun j hj jg jt => ?_⟩
  · rcases Nat.decEq j e with q | q
    · rw [ru_n q]; exact h1 j hj
    · subst q; rw [ru_s]; omega
  · rw [ru_n (Ne.symm hg)]; exact h2 z
  · rw [ru_n (Ne.symm hg)]; exact h3 z
  · rcases Nat.decEq j e with q | q
    · rw [ru_n q] at jt ⊢
      obtain ⟨i, i1, i2, i3, i4⟩ := h4 j hj jg jt
      rcases Nat.decEq i e with p | p
      · exact ⟨i, i1, i2, by rw [ru_n p]; exact i3, by rw [ru_n p]; exact i4⟩
      · subst p
        exact ⟨i, i1, i2, by rw [ru_s]; omega, by rw [ru_s]; omega⟩
    · subst q
      exact ⟨f, hf, hK, by rw [ru_n hfe]; exact ht, by rw [ru_n hfe, ru_s]; omega⟩
def ry_sum (T : Nat → Nat) : Nat → Nat
  | 0 => 0
  | n + 1 => ry_sum T n + T n
theorem ry_sumE : ∀ {n : Nat}, (∀ j, j < n → T j = T' j) → ry_sum T n = ry_sum T' n
  | 0, _ => rfl
  | n + 1, h => by
    have a := ry_sumE (n := n) (fun j hj => h j (by omega))
    have b := h n (by omega)
    simp only [ry_sum]; omega
theorem ry_sumL {e x : Nat} (hx : x < T e) : ∀ {n : Nat}, e < n → ry_sum (ru_p T e x) n < ry_sum T n
  | 0, h => by omega
  | n + 1, h => by
    simp only [ry_sum]
    rcases Nat.decEq e n with q | q
    · have a := ry_sumL hx (n := n) (by omega)
      rw [ru_n (Ne.symm q)]; omega
    · subst q
      have a : ry_sum (ru_p T e x) e = ry_sum T e := ry_sumE (fun j hj => ru_n (by omega))
      rw [ru_s]; omega
theorem ry_ex : ∀ s (T : Nat → Nat), ry_Sup K co g tg T → ry_sum T 16 < s → ∃ T', ry_Bel K co g tg T' := by
  intro s
  induction s with
  | zero => intro T _ h; omega
  | succ s ih =>
    intro T hT hs
    rcases Classical.em (ry_A K co g T) with hA | hA
    · exact ⟨T, hT, hA⟩
    · have : ∃ e f, e < 16 ∧ f < 16 ∧ e ≠ g ∧ K e f ∧ T f < 1000000 ∧ T f + co f < T e := by
        apply Classical.byContradiction
        intro hn
        apply hA
        intro e f he hf hg hK ht
        rcases Nat.lt_or_ge (T f + co f) (T e) with q | q
        · exact absurd ⟨e, f, he, hf, hg, hK, ht, q⟩ hn
        · exact q
      obtain ⟨e, f, he, hf, hg, hK, ht, hl⟩ := this
      exact ih _ (ry_SupU hT he hf hg hK ht hl) (by have := ry_sumL (T := T) hl he; omega)
theorem ry_exist (K : Nat → Nat → Prop) (co : Nat → Nat) (g : Nat) (tg : Prop) : ∃ T, ry_Bel K co g tg T := by
  rcases Classical.em tg with z | z
  · refine ry_ex _ (fun j => if j = g then 0 else 1000000) ⟨fun e _ => ?_, fun _ => if_pos rfl, fun k => absurd z k, fun e _ hg ht => ?_⟩ (Nat.lt_succ_self _)
    · show (if e = g then 0 else 1000000) ≤ 1000000
      split <;> omega
    · have : (if e = g then 0 else 1000000) < 1000000 := ht
      rw [if_neg hg] at this; omega
  · refine ry_ex _ (fun _ => 1000000) ⟨fun e _ => Nat.le_refl _, fun k => absurd k z, fun _ => rfl, fun e _ hg ht => ?_⟩ (Nat.lt_succ_self _)
    have : (1000000 : Nat) < 1000000 := ht
    omega
/-! how many of the first n are below t -/
def ry_rk (T : Nat → Nat) (t : Nat) : Nat → Nat
  | 0 => 0
  | n + 1 => ry_rk T t n + (if T n < t then 1 else 0)
theorem ry_rkM {t t' : Nat} (h : t ≤ t') : ∀ n, ry_rk T t n ≤ ry_rk T t' n
  | 0 => Nat.le_refl _
  | n + 1 => by
    have a := ry_rkM h n
    simp only [ry_rk]
    split <;> split <;> omega
theorem ry_rkL {t f : Nat} (h : T f < t) : ∀ {n : Nat}, f < n → ry_rk T (T f) n < ry_rk T t n
  | 0, k => by omega
  | n + 1, k => by
    simp only [ry_rk]
    rcases Nat.decEq f n with q | q
    · have a := ry_rkL h (n := n) (by omega)
      split <;> split <;> omega
    · subst q
      have a := ry_rkM (T := T) (Nat.le_of_lt h) f
      rw [if_neg (Nat.lt_irrefl _), if_pos h]; omega
theorem ry_rkN (t : Nat) : ∀ n, ry_rk T t n ≤ n
  | 0 => Nat.le_refl _
  | n + 1 => by
    have a := ry_rkN t n
    simp only [ry_rk]
    split <;> omega
theorem ry_rkB {t e : Nat} (h : t ≤ T e) : ∀ {n : Nat}, e < n → ry_rk T t n < n
  | 0, k => by omega
  | n + 1, k => by
    simp only [ry_rk]
    rcases Nat.decEq e n with q | q
    · have a := ry_rkB h (n := n) (by omega)
      split <;> omega
    · subst q
      have a := ry_rkN (T := T) t e
      rw [if_neg (by omega)]; omega
/-! X's distances: δ e is 0 for none, else one more than the distance -/
def ry_Low (T δ : Nat → Nat) : Prop := ∀ e, e < 16 → 0 < δ e → T e < 1000000 ∧ T e + 1 ≤ δ e
def ry_Set (T δ : Nat → Nat) (r : Nat) : Prop := ∀ e, e < 16 → T e < 1000000 → ry_rk T (T e) 16 ≤ r → δ e = T e + 1
/-- what X's scan has found among the first n: b is 0 for none, else one more than the edge; l one more than the sum -/
def ry_Fn (K : Nat → Nat → Prop) (co δ : Nat → Nat) (e n b l : Nat) : Prop :=
  (b = 0 ∧ l = 0 ∧ ∀ f, f < n → K e f → δ f = 0) ∨
  (∃ f, b = f + 1 ∧ f < n ∧ K e f ∧ 0 < δ f ∧ l = co f + δ f ∧ (∀ f', f' < n → K e f' → 0 < δ f' → l ≤ co f' + δ f') ∧ ∀ f', f' < f → K e f' → 0 < δ f' → l < co f' + δ f')
theorem ry_Fn0 {e : Nat} : ry_Fn K co δ e 0 0 0 := Or.inl ⟨rfl, rfl, fun f h => absurd h (Nat.not_lt_zero f)⟩
theorem ry_FnN {e n b l : Nat} (h : ry_Fn K co δ e n b l) (hn : ¬ (K e n ∧ 0 < δ n ∧ (b = 0 ∨ co n + δ n < l))) : ry_Fn K co δ e (n + 1) b l := by
  rcases h with ⟨h1, h2, h3⟩ | ⟨f, h1, h2, h3, h4, h5, h6, h7⟩
  · refine Or.inl ⟨h1, h2, fun f hf hK => ?_⟩
    rcases Nat.decEq f n with q | q
    · exact h3 f (by omega) hK
    · subst q
      rcases Nat.eq_zero_or_pos (δ f) with z | z
      · exact z
      · exact absurd ⟨hK, z, Or.inl h1⟩ hn
  · refine Or.inr ⟨f, h1, by omega, h3, h4, h5, fun f' hf' hK hp => ?_, h7⟩
    rcases Nat.decEq f' n with q | q
    · exact h6 f' (by omega) hK hp
    · subst q
      rcases Nat.lt_or_ge (co f' + δ f') l with z | z
      · exact absurd ⟨hK, hp, Or.inr z⟩ hn
      · exact z
theorem ry_FnS {e n b l : Nat} (h : ry_Fn K co δ e n b l) (hK : K e n) (hp : 0 < δ n) (hb : b = 0 ∨ co n + δ n < l) : ry_Fn K co δ e (n + 1) (n + 1) (co n + δ n) := by
  have low : ∀ f', f' < n → K e f' → 0 < δ f' → co n + δ n < co f' + δ f' := by
    intro f' hf' hK' hp'
    rcases h with ⟨h1, h2, h3⟩ | ⟨f, h1, h2, h3, h4, h5, h6, h7⟩
    · have := h3 f' hf' hK'; omega
    · have := h6 f' hf' hK' hp'
      rcases hb with z | z <;> omega
  refine Or.inr ⟨n, rfl, by omega, hK, hp, rfl, fun f' hf' hK' hp' => ?_, low⟩
  rcases Nat.decEq f' n with q | q
  · have := low f' (by omega) hK' hp'; omega
  · subst q; exact Nat.le_refl _
theorem ry_FnLow (hT : ry_Bel K co g tg T) (hL : ry_Low T δ) {e b l : Nat} (he : e < 16) (hg : e ≠ g) (h : ry_Fn K co δ e 16 b l) (hl : l ≤ 1000000) (h0 : 0 < l) : T e < 1000000 ∧ T e + 1 ≤ l := by
  rcases h with ⟨h1, h2, h3⟩ | ⟨f, h1, h2, h3, h4, h5, h6, h7⟩
  · omega
  · obtain ⟨a, b⟩ := hL f h2 h4
    have := hT.2 e f he h2 hg h3 a
    omega
theorem ry_FnSet (hc : ∀ e f, K e f → 1 ≤ co f) (hT : ry_Bel K co g tg T) (hL : ry_Low T δ) {r : Nat} (hS : ry_Set T δ r) {e b l : Nat} (he : e < 16) (hg : e ≠ g) (h : ry_Fn K co δ e 16 b l) (hl : l ≤ 1000000) (ht : T e < 1000000) (hr : ry_rk T (T e) 16 ≤ r + 1) : l = T e + 1 := by
  obtain ⟨f, f1, f2, f3, f4⟩ := ry_eq hT he hg ht
  have c1 := hc e f f2
  have hlt : T f < T e := by omega
  have r1 := ry_rkL (T := T) hlt f1
  have s1 := hS f f1 f3 (by omega)
  have hle : l ≤ T e + 1 ∧ 0 < l := by
    rcases h with ⟨h1, h2, h3⟩ | ⟨f', h1, h2, h3, h4, h5, h6, h7⟩
    · have := h3 f f1 f2; omega
    · have := h6 f f1 f2 (by omega); omega
  have := ry_FnLow hT hL he hg h hl hle.2
  omega
/-- X's NEXT -/
def ry_Nx (K : Nat → Nat → Prop) (co T : Nat → Nat) (e b : Nat) : Prop :=
  (b = 0 ∧ ∀ f, f < 16 → K e f → ¬ T f < 1000000) ∨
  (∃ f, b = f + 1 ∧ f < 16 ∧ K e f ∧ T f < 1000000 ∧ T f + co f = T e ∧ ∀ f', f' < f → K e f' → T f' < 1000000 → T f' + co f' ≠ T e)
def ry_dec (δ : Nat → Nat) : Nat → Nat := fun e => if δ e = 0 then 1000000 else δ e - 1
theorem ry_decL {e : Nat} (hb : δ e ≤ 1000000) : ry_dec δ e < 1000000 ↔ 0 < δ e := by
  unfold ry_dec
  split <;> omega
theorem ry_decV {e : Nat} (h : 0 < δ e) : ry_dec δ e + 1 = δ e := by
  unfold ry_dec
  rw [if_neg (by omega)]; omega
/-- a last round that changed nothing -/
theorem ry_fix (hb : ∀ e, e < 16 → δ e ≤ 1000000) (hg : g < 16) (h1 : tg → δ g = 1) (h0 : ¬ tg → δ g = 0) {nx : Nat → Nat} (h : ∀ e, e < 16 → e ≠ g → ry_Fn K co δ e 16 (nx e) (δ e)) : ry_Bel K co g tg (ry_dec δ) ∧ ∀ e, e < 16 → e ≠ g → ry_Nx K co (ry_dec δ) e (nx e) := by
  refine ⟨⟨⟨fun e he => ?_, fun z => ?_, fun z => ?_, fun e he hn ht => ?_⟩, fun e f he hf hn hK ht => ?_⟩, fun e he hn => ?_⟩
  · have := hb e he
    unfold ry_dec
    split <;> omega
  · have := h1 z
    unfold ry_dec
    rw [if_neg (by omega)]; omega
  · have := h0 z
    unfold ry_dec
    rw [if_pos this]
  · have d1 := (ry_decL (hb e he)).mp ht
    rcases h e he hn with ⟨_, h2, _⟩ | ⟨f, _, h2, h3, h4, h5, _, _⟩
    · omega
    · have a := ry_decV d1
      have b := ry_decV h4
      exact ⟨f, h2, h3, (ry_decL (hb f h2)).mpr h4, by omega⟩
  · have d1 := (ry_decL (hb f hf)).mp ht
    have b := ry_decV d1
    rcases h e he hn with ⟨_, _, h3⟩ | ⟨f', _, _, _, h4, h5, h6, _⟩
    · have := h3 f hf hK; omega
    · have := h6 f hf hK d1
      have a := ry_decV (δ := δ) (e := e) (by omega)
      omega
  · rcases h e he hn with ⟨h1', h2, h3⟩ | ⟨f, h1', h2, h3, h4, h5, h6, h7⟩
    · refine Or.inl ⟨h1', fun f hf hK ht => ?_⟩
      have := (ry_decL (hb f hf)).mp ht
      have := h3 f hf hK
      omega
    · have a := ry_decV (δ := δ) (e := e) (by omega)
      have b := ry_decV h4
      refine Or.inr ⟨f, h1', h2, h3, (ry_decL (hb f h2)).mpr h4, by omega, fun f' hf' hK ht => ?_⟩
      have d1 := (ry_decL (hb f' (by omega))).mp ht
      have c := ry_decV d1
      have := h7 f' hf' hK d1
      omega
theorem ry_NxE (h : ∀ e, e < 16 → T e = T' e) {e b : Nat} (he : e < 16) (hN : ry_Nx K co T e b) : ry_Nx K co T' e b := by
  rcases hN with ⟨h1, h2⟩ | ⟨f, h1, h2, h3, h4, h5, h6⟩
  · exact Or.inl ⟨h1, fun f hf hK => by rw [← h f hf]; exact h2 f hf hK⟩
  · refine Or.inr ⟨f, h1, h2, h3, by rw [← h f h2]; exact h4, by rw [← h f h2, ← h e he]; exact h5, fun f' hf' hK => ?_⟩
    rw [← h f' (by omega), ← h e he]
    exact h6 f' hf' hK
end
end
section
/-! the cars, in pure numbers. ps c: 0 for a car that isn't ON, else one more than its spot; pg c: 0 for a car that isn't GRANTED, else one more than the spot; fr FRONT, sp SPEED, go GOAL, zs SIZE of cars; len, fm, tt of edges -/
def rd_D : Nat → Nat
  | 0 => 0
  | 1 => 0
  | v + 2 => v + rd_D v
theorem rd_D2 (v : Nat) : rd_D (v + 2) = v + rd_D v := rfl
theorem rd_D0 : rd_D 0 = 0 := rfl
theorem rd_Dc : ∀ v, v < 64 → rd_D v = v / 2 * ((v - 1) / 2) := by decide
theorem rd_Dm1 : ∀ v, rd_D v ≤ rd_D (v + 1)
  | 0 => by decide
  | 1 => by decide
  | v + 2 => by
    have h := rd_Dm1 v
    show v + rd_D v ≤ (v + 1) + rd_D (v + 1)
    omega
theorem rd_Dm {a b : Nat} (h : a ≤ b) : rd_D a ≤ rd_D b := by
  induction h with
  | refl => exact Nat.le_refl _
  | step _ ih => exact Nat.le_trans ih (rd_Dm1 _)
/-- a speed that falls by 2 at most -/
theorem rd_Dlow {v u : Nat} (h : v ≤ u + 2) : rd_D v ≤ u + rd_D u := by
  have h1 := rd_Dm h
  rw [rd_D2] at h1
  exact h1
theorem rd_Dreach {u g w : Nat} (h : u + rd_D u ≤ g + rd_D w) : u ≤ g + (w - 2) := by
  rcases Nat.lt_or_ge (g + (w - 2)) u with k | k
  · exfalso
    match w, h, k with
    | 0, h, k => have : rd_D 0 = 0 := rfl; omega
    | 1, h, k => have : rd_D 1 = 0 := rfl; omega
    | w + 2, h, k =>
      have e : w + 2 - 2 = w := by omega
      rw [e] at k
      have h1 : rd_D w ≤ rd_D u := rd_Dm (by omega)
      rw [rd_D2] at h
      omega
  · exact k
/-- who stands at p with speed v follows safely who stands at q with speed w and size s -/
def rd_Fo (p v q w s : Nat) : Prop := p + s + 1 ≤ q ∧ rd_D v + p + s + 1 ≤ q + rd_D w
/-- speed u is within the bound that this one sets -/
def rd_Bd (p u q w s : Nat) : Prop := u = 0 ∨ u + rd_D u + p + s + 1 ≤ q + rd_D w
theorem rd_FoT {p v q w s r x t : Nat} (h : rd_Fo p v q w s) (k : rd_Fo q w r x t) : rd_Fo p v r x t := by
  unfold rd_Fo at *
  omega
theorem rd_BdT {p u q w s r x t : Nat} (h : rd_Bd p u q w s) (k : rd_Fo q w r x t) : rd_Bd p u r x t := by
  unfold rd_Fo at k
  unfold rd_Bd at *
  omega
theorem rd_FoM {p v q w s u y : Nat} (h : rd_Fo p v q w s) (hu : rd_Bd p u q w s) (hy : w ≤ y + 2) : rd_Fo (p + u) u (q + y) y s := by
  unfold rd_Fo at *
  unfold rd_Bd at hu
  have h1 : rd_D w ≤ y + rd_D y := rd_Dlow hy
  rcases hu with h0 | h0
  · subst h0
    have e : rd_D 0 = 0 := rfl
    omega
  · have h2 : u + rd_D u ≤ (q - p - s - 1) + rd_D w := by omega
    have h3 := rd_Dreach h2
    omega
/-- v - 2 is within each bound -/
theorem rd_BdL {p v q w s : Nat} (h : rd_Fo p v q w s) : rd_Bd p (v - 2) q w s := by
  unfold rd_Fo at h
  unfold rd_Bd
  match v, h with
  | 0, _ => exact Or.inl rfl
  | 1, _ => exact Or.inl rfl
  | v + 2, h =>
    right
    have e : v + 2 - 2 = v := by omega
    rw [e]
    rw [rd_D2] at h
    omega
/-- bounds are closed downwards -/
theorem rd_BdD {p u u' q w s : Nat} (h : rd_Bd p u q w s) (k : u' ≤ u) : rd_Bd p u' q w s := by
  unfold rd_Bd at *
  have := rd_Dm k
  omega
theorem rd_FoS {p v q w s k p' q' : Nat} (h : rd_Fo p v q w s) (hp : p' + k = p) (hq : q' + k = q) : rd_Fo p' v q' w s := by
  unfold rd_Fo at *
  omega
theorem rd_FoA {p v q w s : Nat} (k : Nat) (h : rd_Fo p v q w s) : rd_Fo (p + k) v (q + k) w s := by
  unfold rd_Fo at *
  omega
def rd_q (p : Nat) : Nat := (p - 1) / 2
def rd_S1 (ps fr sp zs : Nat → Nat) : Prop := ∀ c a, c < 32 → a < 32 → c ≠ a → 0 < ps c → ps a = ps c → fr c ≠ fr a ∧ (fr c < fr a → rd_Fo (fr c) (sp c) (fr a) (sp a) (zs a))
def rd_S2 (len ps pg fr sp zs : Nat → Nat) : Prop := ∀ c b, c < 32 → b < 32 → 0 < pg c → ps b = pg c → rd_Fo (fr c) (sp c) (fr b + len (rd_q (ps c))) (sp b) (zs b)
def rd_S3 (len ps pg fr sp go : Nat → Nat) : Prop := ∀ c, c < 32 → 0 < ps c → (pg c = 0 → go c ≠ rd_q (ps c) → rd_D (sp c) + fr c ≤ len (rd_q (ps c))) ∧ (0 < pg c → go c ≠ rd_q (pg c) → rd_D (sp c) + fr c ≤ len (rd_q (ps c)) + len (rd_q (pg c)))
def rd_G (ps pg fr : Nat → Nat) : Prop := ∀ c a, c < 32 → a < 32 → 0 < pg c → ps a = ps c → fr c < fr a → pg a = pg c
def rd_H (tt ps pg : Nat → Nat) : Prop := ∀ c d, c < 32 → d < 32 → 0 < pg c → 0 < pg d → tt (rd_q (ps c)) = tt (rd_q (ps d)) → ps c = ps d ∧ pg c = pg d
def rd_B (len fm tt ps pg fr go : Nat → Nat) : Prop := ∀ c, c < 32 → (0 < ps c → 1 ≤ fr c ∧ fr c ≤ len (rd_q (ps c))) ∧ (0 < pg c → 0 < ps c ∧ fm (rd_q (pg c)) = tt (rd_q (ps c)) ∧ go c ≠ rd_q (ps c) ∧ rd_q (pg c) ≠ rd_q (ps c))
def rd_Safe (len fm tt ps pg fr sp go zs : Nat → Nat) : Prop := rd_S1 ps fr sp zs ∧ rd_S2 len ps pg fr sp zs ∧ rd_S3 len ps pg fr sp go ∧ rd_G ps pg fr ∧ rd_H tt ps pg ∧ rd_B len fm tt ps pg fr go
/-- what MOVES do to each car, its new speed being u -/
def rd_Mv (len ps pg fr go u ps' pg' fr' sp' : Nat → Nat) : Prop := ∀ c, c < 32 →
  (ps c = 0 → ps' c = 0 ∧ pg' c = 0) ∧
  (0 < ps c → fr c + u c ≤ len (rd_q (ps c)) → ps' c = ps c ∧ pg' c = pg c ∧ fr' c = fr c + u c ∧ sp' c = u c) ∧
  (0 < ps c → len (rd_q (ps c)) < fr c + u c → go c = rd_q (ps c) → ps' c = 0 ∧ pg' c = 0) ∧
  (0 < ps c → len (rd_q (ps c)) < fr c + u c → go c ≠ rd_q (ps c) → 0 < pg c ∧ ps' c = pg c ∧ pg' c = 0 ∧ fr' c + len (rd_q (ps c)) = fr c + u c ∧ sp' c = u c)
/-- the bounds that each new speed keeps -/
def rd_U (len ps pg fr sp go zs u : Nat → Nat) : Prop := ∀ c, c < 32 → 0 < ps c →
  sp c ≤ u c + 2 ∧
  (∀ a, a < 32 → ps a = ps c → fr c < fr a → rd_Bd (fr c) (u c) (fr a) (sp a) (zs a)) ∧
  (0 < pg c → ∀ b, b < 32 → ps b = pg c → rd_Bd (fr c) (u c) (fr b + len (rd_q (ps c))) (sp b) (zs b)) ∧
  (pg c = 0 → go c ≠ rd_q (ps c) → u c = 0 ∨ u c + rd_D (u c) + fr c ≤ len (rd_q (ps c))) ∧
  (0 < pg c → go c ≠ rd_q (pg c) → u c = 0 ∨ u c + rd_D (u c) + fr c ≤ len (rd_q (ps c)) + len (rd_q (pg c)))
section
variable {len fm tt ps pg fr sp go zs u ps' pg' fr' sp' : Nat → Nat}
/-- ON after MOVES: stayed or crossed -/
theorem rd_Mvc (M : rd_Mv len ps pg fr go u ps' pg' fr' sp') {c : Nat} (hc : c < 32) (h : 0 < ps' c) :
    0 < ps c ∧ ((fr c + u c ≤ len (rd_q (ps c)) ∧ ps' c = ps c ∧ pg' c = pg c ∧ fr' c = fr c + u c ∧ sp' c = u c) ∨ (len (rd_q (ps c)) < fr c + u c ∧ go c ≠ rd_q (ps c) ∧ 0 < pg c ∧ ps' c = pg c ∧ pg' c = 0 ∧ fr' c + len (rd_q (ps c)) = fr c + u c ∧ sp' c = u c)) := by
  obtain ⟨m1, m2, m3, m4⟩ := M c hc
  have hs : 0 < ps c := by
    rcases Nat.eq_zero_or_pos (ps c) with k | k
    · have := (m1 k).1; omega
    · exact k
  refine ⟨hs, ?_⟩
  rcases Nat.lt_or_ge (len (rd_q (ps c))) (fr c + u c) with k | k
  · rcases Nat.decEq (go c) (rd_q (ps c)) with g | g
    · obtain ⟨a1, a2, a3, a4, a5⟩ := m4 hs k g
      exact Or.inr ⟨k, g, a1, a2, a3, a4, a5⟩
    · have := (m3 hs k g).1; omega
  · obtain ⟨a1, a2, a3, a4⟩ := m2 hs k
    exact Or.inl ⟨k, a1, a2, a3, a4⟩
theorem rd_Mvg (M : rd_Mv len ps pg fr go u ps' pg' fr' sp') {c : Nat} (hc : c < 32) (h : 0 < pg' c) :
    0 < ps c ∧ 0 < ps' c ∧ fr c + u c ≤ len (rd_q (ps c)) ∧ ps' c = ps c ∧ pg' c = pg c ∧ fr' c = fr c + u c ∧ sp' c = u c := by
  obtain ⟨m1, m2, m3, m4⟩ := M c hc
  have hs : 0 < ps c := by
    rcases Nat.eq_zero_or_pos (ps c) with k | k
    · have := (m1 k).2; omega
    · exact k
  rcases Nat.lt_or_ge (len (rd_q (ps c))) (fr c + u c) with k | k
  · rcases Nat.decEq (go c) (rd_q (ps c)) with g | g
    · have := (m4 hs k g).2.2.1; omega
    · have := (m3 hs k g).2; omega
  · obtain ⟨a1, a2, a3, a4⟩ := m2 hs k
    exact ⟨hs, by omega, k, a1, a2, a3, a4⟩
/-- of two cars of a lane the one behind stays behind, safely -/
theorem rd_m1 (hS : rd_S1 ps fr sp zs) (hU : rd_U len ps pg fr sp go zs u) {c a : Nat} (hc : c < 32) (ha : a < 32) (sc : 0 < ps c) (he : ps a = ps c) (hf : fr c < fr a) : rd_Fo (fr c + u c) (u c) (fr a + u a) (u a) (zs a) := by
  have hca : c ≠ a := by intro z; subst z; omega
  obtain ⟨_, uL, _⟩ := hU c hc sc
  exact rd_FoM ((hS c a hc ha hca sc he).2 hf) (uL a ha he hf) (hU a ha (by omega)).1
theorem rd_m2 (hB : rd_B len fm tt ps pg fr go) (hS : rd_S2 len ps pg fr sp zs) (hU : rd_U len ps pg fr sp go zs u) {c b : Nat} (hc : c < 32) (hb : b < 32) (gc : 0 < pg c) (he : ps b = pg c) : rd_Fo (fr c + u c) (u c) (fr b + len (rd_q (ps c)) + u b) (u b) (zs b) := by
  obtain ⟨_, _, uG, _⟩ := hU c hc ((hB c hc).2 gc).1
  exact rd_FoM (hS c b hc hb gc he) (uG gc b hb he) (hU b hb (by omega)).1
theorem rd_mS1 (hB : rd_B len fm tt ps pg fr go) (h1 : rd_S1 ps fr sp zs) (h2 : rd_S2 len ps pg fr sp zs) (hH : rd_H tt ps pg) (hU : rd_U len ps pg fr sp go zs u) (M : rd_Mv len ps pg fr go u ps' pg' fr' sp') : rd_S1 ps' fr' sp' zs := by
  have key : ∀ c a, c < 32 → a < 32 → c ≠ a → 0 < ps' c → ps' a = ps' c → rd_Fo (fr' c) (sp' c) (fr' a) (sp' a) (zs a) ∨ rd_Fo (fr' a) (sp' a) (fr' c) (sp' c) (zs c) := by
    intro c a hc ha hca sc he
    obtain ⟨c2, C⟩ := rd_Mvc M hc sc
    obtain ⟨a2, A⟩ := rd_Mvc M ha (by omega)
    rcases C with ⟨_, ce, _, cf, cs⟩ | ⟨_, _, cg, ce, _, cf, cs⟩
    · rcases A with ⟨_, ae, _, af, as⟩ | ⟨_, _, ag, ae, _, af, as⟩
      · rw [cf, cs, af, as]
        have e1 : ps a = ps c := by rw [← ce, ← ae, he]
        rcases Nat.lt_or_gt_of_ne (h1 c a hc ha hca c2 e1).1 with k | k
        · exact Or.inl (rd_m1 h1 hU hc ha c2 e1 k)
        · exact Or.inr (rd_m1 h1 hU ha hc a2 e1.symm k)
      · have e1 : ps c = pg a := by rw [← ce, ← ae, he]
        have f := rd_m2 hB h2 hU ha hc ag e1
        rw [cs, as]
        exact Or.inr (rd_FoS (k := len (rd_q (ps a))) f af (by omega))
    · rcases A with ⟨_, ae, _, af, as⟩ | ⟨_, _, ag, ae, _, af, as⟩
      · have e1 : ps a = pg c := by rw [← ce, ← ae, he]
        have f := rd_m2 hB h2 hU hc ha cg e1
        rw [cs, as]
        exact Or.inl (rd_FoS (k := len (rd_q (ps c))) f cf (by omega))
      · have n1 : pg a = pg c := by rw [← ce, ← ae, he]
        have t1 : tt (rd_q (ps c)) = tt (rd_q (ps a)) := by rw [← ((hB c hc).2 cg).2.1, ← ((hB a ha).2 ag).2.1, n1]
        obtain ⟨e1, _⟩ := hH c a hc ha cg ag t1
        rw [cs, as]
        rw [← e1] at af
        rcases Nat.lt_or_gt_of_ne (h1 c a hc ha hca c2 e1.symm).1 with k | k
        · exact Or.inl (rd_FoS (rd_m1 h1 hU hc ha c2 e1.symm k) cf af)
        · exact Or.inr (rd_FoS (rd_m1 h1 hU ha hc a2 e1 k) af cf)
  intro c a hc ha hca sc he
  rcases key c a hc ha hca sc he with k | k
  · exact ⟨by have := k.1; omega, fun _ => k⟩
  · exact ⟨by have := k.1; omega, fun h => by have := k.1; omega⟩
theorem rd_mS2 (hB : rd_B len fm tt ps pg fr go) (h1 : rd_S1 ps fr sp zs) (h2 : rd_S2 len ps pg fr sp zs) (hH : rd_H tt ps pg) (hU : rd_U len ps pg fr sp go zs u) (M : rd_Mv len ps pg fr go u ps' pg' fr' sp') : rd_S2 len ps' pg' fr' sp' zs := by
  intro c b hc hb gc he
  obtain ⟨c2, _, cL, ce, cg, cf, cs⟩ := rd_Mvg M hc gc
  obtain ⟨b2, A⟩ := rd_Mvc M hb (by omega)
  rw [cg] at gc he
  rw [ce, cf, cs]
  rcases A with ⟨_, ae, _, af, as⟩ | ⟨aL, _, ag, ae, _, af, as⟩
  · rw [ae] at he
    rw [af, as]
    have f := rd_m2 hB h2 hU hc hb gc he
    exact rd_FoS (k := 0) f rfl (by omega)
  · rw [ae] at he
    have t1 : tt (rd_q (ps c)) = tt (rd_q (ps b)) := by rw [← ((hB c hc).2 gc).2.1, ← ((hB b hb).2 ag).2.1, he]
    obtain ⟨e1, _⟩ := hH c b hc hb gc ag t1
    rw [as]
    rw [← e1] at aL af
    have hcb : c ≠ b := by intro z; subst z; omega
    rcases Nat.lt_or_gt_of_ne (h1 c b hc hb hcb c2 e1.symm).1 with k | k
    · have f := rd_m1 h1 hU hc hb c2 e1.symm k
      exact rd_FoS (k := 0) f rfl (by omega)
    · have f := rd_m1 h1 hU hb hc b2 e1 k
      have := f.1
      omega
theorem rd_mS3 (hU : rd_U len ps pg fr sp go zs u) (hB : rd_B len fm tt ps pg fr go) (M : rd_Mv len ps pg fr go u ps' pg' fr' sp') : rd_S3 len ps' pg' fr' sp' go := by
  intro c hc sc
  obtain ⟨c2, C⟩ := rd_Mvc M hc sc
  obtain ⟨_, _, _, u0, u1⟩ := hU c hc c2
  have bL := ((hB c hc).1 c2).2
  have z : rd_D 0 = 0 := rfl
  rcases C with ⟨cL, ce, cg, cf, cs⟩ | ⟨cL, cq, c1, ce, cg, cf, cs⟩
  · rw [ce, cf, cs, cg]
    refine ⟨fun g0 gn => ?_, fun g0 gn => ?_⟩
    · rcases u0 g0 gn with k | k
      · rw [k]; omega
      · omega
    · rcases u1 g0 gn with k | k
      · rw [k]; omega
      · omega
  · rw [ce, cs, cg]
    refine ⟨fun _ gn => ?_, fun g0 => by omega⟩
    rcases u1 c1 gn with k | k
    · omega
    · omega
theorem rd_mG (hB : rd_B len fm tt ps pg fr go) (h1 : rd_S1 ps fr sp zs) (h2 : rd_S2 len ps pg fr sp zs) (hG : rd_G ps pg fr) (hU : rd_U len ps pg fr sp go zs u) (M : rd_Mv len ps pg fr go u ps' pg' fr' sp') : rd_G ps' pg' fr' := by
  intro c a hc ha gc he hf
  obtain ⟨c2, c3, cL, ce, cg, cf, cs⟩ := rd_Mvg M hc gc
  obtain ⟨a2, A⟩ := rd_Mvc M ha (by omega)
  have hca : c ≠ a := by intro z; subst z; omega
  rw [cg] at gc
  rcases A with ⟨aL, ae, ag, af, as⟩ | ⟨aL, _, ag, ae, _, af, as⟩
  · have e1 : ps a = ps c := by rw [← ce, ← ae, he]
    rw [ag, cg]
    rcases Nat.lt_or_gt_of_ne (h1 c a hc ha hca c2 e1).1 with k | k
    · exact hG c a hc ha gc e1 k
    · have := (rd_m1 h1 hU ha hc a2 e1.symm k).1
      omega
  · have e1 : ps c = pg a := by rw [← ce, ← ae, he]
    have := (rd_m2 hB h2 hU ha hc ag e1).1
    omega
theorem rd_mH (hH : rd_H tt ps pg) (M : rd_Mv len ps pg fr go u ps' pg' fr' sp') : rd_H tt ps' pg' := by
  intro c d hc hd gc gd ht
  obtain ⟨_, _, _, ce, cg, _, _⟩ := rd_Mvg M hc gc
  obtain ⟨_, _, _, de, dg, _, _⟩ := rd_Mvg M hd gd
  rw [ce, de] at ht
  rw [cg] at gc
  rw [dg] at gd
  rw [ce, de, cg, dg]
  exact hH c d hc hd gc gd ht
/-- an edge is longer than a car goes in a step -/
theorem rd_mB (hB : rd_B len fm tt ps pg fr go) (hl : ∀ c, c < 32 → 0 < pg c → 20 ≤ len (rd_q (pg c))) (hu : ∀ c, c < 32 → 0 < ps c → u c ≤ 12) (M : rd_Mv len ps pg fr go u ps' pg' fr' sp') : rd_B len fm tt ps' pg' fr' go := by
  intro c hc
  refine ⟨fun h => ?_, fun h => ?_⟩
  · obtain ⟨c2, C⟩ := rd_Mvc M hc h
    have b := (hB c hc).1 c2
    rcases C with ⟨cL, ce, cg, cf, cs⟩ | ⟨cL, cq, c1, ce, cg, cf, cs⟩
    · rw [ce, cf]; omega
    · rw [ce]
      have := hl c hc c1
      have := hu c hc c2
      omega
  · obtain ⟨_, c3, _, ce, cg, cf, _⟩ := rd_Mvg M hc h
    rw [ce, cg]
    rw [cg] at h
    exact (hB c hc).2 h
theorem rd_mAll (h : rd_Safe len fm tt ps pg fr sp go zs) (hl : ∀ c, c < 32 → 0 < pg c → 20 ≤ len (rd_q (pg c))) (hu : ∀ c, c < 32 → 0 < ps c → u c ≤ 12) (hU : rd_U len ps pg fr sp go zs u) (M : rd_Mv len ps pg fr go u ps' pg' fr' sp') : rd_Safe len fm tt ps' pg' fr' sp' go zs := by
  obtain ⟨h1, h2, h3, hG, hH, hB⟩ := h
  exact ⟨rd_mS1 hB h1 h2 hH hU M, rd_mS2 hB h1 h2 hH hU M, rd_mS3 hU hB M, rd_mG hB h1 h2 hG hU M, rd_mH hH M, rd_mB hB hl hu M⟩
end
end
section
/-! the nearest on a lane; what keeps the cars safe: grants, changes of lanes, entries, ends -/
/-- n is 0 if none of lane s stands above p, else one more than the one with the least FRONT -/
def rd_Nr (ps fr : Nat → Nat) (s p n : Nat) : Prop :=
  (n = 0 ∧ ∀ a, a < 32 → ps a = s → ¬ p < fr a) ∨ (∃ a, n = a + 1 ∧ a < 32 ∧ ps a = s ∧ p < fr a ∧ ∀ b, b < 32 → ps b = s → p < fr b → fr a ≤ fr b)
/-- n is 0 if none of lane s stands at p or below, else one more than the one with the greatest FRONT -/
def rd_Nu (ps fr : Nat → Nat) (s p n : Nat) : Prop :=
  (n = 0 ∧ ∀ a, a < 32 → ps a = s → ¬ fr a ≤ p) ∨ (∃ a, n = a + 1 ∧ a < 32 ∧ ps a = s ∧ fr a ≤ p ∧ ∀ b, b < 32 → ps b = s → fr b ≤ p → fr b ≤ fr a)
section
variable {len fm tt ps pg fr sp go zs fr' sp' go' zs' : Nat → Nat}
theorem rd_Uc (h : rd_Safe len fm tt ps pg fr sp go zs) {c n u : Nat} (hc : c < 32) (sc : 0 < ps c) (hn : rd_Nr ps fr (ps c) (fr c) n)
    (b1 : ∀ a, n = a + 1 → rd_Bd (fr c) u (fr a) (sp a) (zs a))
    (b2 : n = 0 → 0 < pg c → ∃ n', rd_Nr ps fr (pg c) 0 n' ∧ ∀ b, n' = b + 1 → rd_Bd (fr c) u (fr b + len (rd_q (ps c))) (sp b) (zs b)) :
    (∀ a, a < 32 → ps a = ps c → fr c < fr a → rd_Bd (fr c) u (fr a) (sp a) (zs a)) ∧
    (0 < pg c → ∀ b, b < 32 → ps b = pg c → rd_Bd (fr c) u (fr b + len (rd_q (ps c))) (sp b) (zs b)) := by
  obtain ⟨h1, h2, h3, hG, hH, hB⟩ := h
  refine ⟨fun a ha ea fa => ?_, fun gc b hb eb => ?_⟩
  · rcases hn with ⟨_, k⟩ | ⟨a0, n1, n2, n3, n4, n5⟩
    · exact absurd fa (k a ha ea)
    · rcases Nat.decEq a0 a with q | q
      · have d := h1 a0 a n2 ha q (by omega) (by rw [n3, ea])
        have l1 := n5 a ha ea fa
        exact rd_BdT (b1 a0 n1) (d.2 (by omega))
      · subst q; exact b1 a0 n1
  · rcases hn with ⟨n0, k⟩ | ⟨a0, n1, n2, n3, n4, n5⟩
    · obtain ⟨n', hn', hb'⟩ := b2 n0 gc
      have f1 := ((hB b hb).1 (by omega)).1
      rcases hn' with ⟨_, k'⟩ | ⟨b0, m1, m2, m3, m4, m5⟩
      · exact absurd (by omega) (k' b hb eb)
      · rcases Nat.decEq b0 b with q | q
        · have d := h1 b0 b m2 hb q (by omega) (by rw [m3, eb])
          have l1 := m5 b hb eb (by omega)
          exact rd_BdT (hb' b0 m1) (rd_FoA _ (d.2 (by omega)))
        · subst q; exact hb' b0 m1
    · have g1 := hG c a0 hc n2 gc n3 n4
      have s2 := h2 a0 b n2 hb (by omega) (by rw [g1, eb])
      rw [n3] at s2
      exact rd_BdT (b1 a0 n1) s2
theorem rd_grant (h : rd_Safe len fm tt ps pg fr sp go zs) {c s n : Nat} (hc : c < 32) (sc : 0 < ps c) (g0 : pg c = 0) (s0 : 0 < s)
    (hgo : go c ≠ rd_q (ps c)) (hfm : fm (rd_q s) = tt (rd_q (ps c))) (hq : rd_q s ≠ rd_q (ps c))
    (hn : rd_Nr ps fr (ps c) (fr c) n) (b1 : ∀ a, n = a + 1 → pg a = s)
    (b2 : n = 0 → ∃ n', rd_Nr ps fr s 0 n' ∧ ∀ b, n' = b + 1 → rd_Fo (fr c) (sp c) (fr b + len (rd_q (ps c))) (sp b) (zs b))
    (he : go c ≠ rd_q s → rd_D (sp c) + fr c ≤ len (rd_q (ps c)) + len (rd_q s))
    (hh : ∀ d, d < 32 → 0 < pg d → tt (rd_q (ps d)) = tt (rd_q (ps c)) → ps d = ps c ∧ pg d = s) :
    rd_Safe len fm tt ps (ru_p pg c s) fr sp go zs := by
  obtain ⟨h1, h2, h3, hG, hH, hB⟩ := h
  refine ⟨h1, fun d b hd hb gd eb => ?_, fun d hd sd => ?_, fun d a hd ha gd ea fa => ?_, fun d d' hd hd' gd gd' ht => ?_, fun d hd => ?_⟩
  · rcases Nat.decEq d c with q | q
    · rw [ru_n q] at gd eb
      exact h2 d b hd hb gd eb
    · subst q
      rw [ru_s] at eb
      rcases hn with ⟨n0, k⟩ | ⟨a0, n1, n2, n3, n4, n5⟩
      · obtain ⟨n', hn', hb'⟩ := b2 n0
        have f1 := ((hB b hb).1 (by omega)).1
        rcases hn' with ⟨_, k'⟩ | ⟨b0, m1, m2, m3, m4, m5⟩
        · exact absurd (by omega) (k' b hb eb)
        · rcases Nat.decEq b0 b with q | q
          · have e := h1 b0 b m2 hb q (by omega) (by rw [m3, eb])
            have l1 := m5 b hb eb (by omega)
            exact rd_FoT (hb' b0 m1) (rd_FoA _ (e.2 (by omega)))
          · subst q; exact hb' b0 m1
      · have g1 := b1 a0 n1
        have s2 := h2 a0 b n2 hb (by omega) (by rw [g1, eb])
        rw [n3] at s2
        have hda : d ≠ a0 := by intro z; subst z; omega
        exact rd_FoT ((h1 d a0 hd n2 hda sc n3).2 n4) s2
  · rcases Nat.decEq d c with q | q
    · rw [ru_n q]; exact h3 d hd sd
    · subst q
      rw [ru_s]
      exact ⟨fun z => by omega, fun _ => he⟩
  · rcases Nat.decEq d c with q | q
    · rw [ru_n q] at gd ⊢
      rcases Nat.decEq a c with p | p
      · rw [ru_n p]; exact hG d a hd ha gd ea fa
      · subst p
        have := hG d a hd ha gd ea fa
        omega
    · subst q
      rw [ru_s]
      have had : a ≠ d := by intro z; subst z; omega
      rw [ru_n had]
      rcases hn with ⟨n0, k⟩ | ⟨a0, n1, n2, n3, n4, n5⟩
      · exact absurd fa (k a ha ea)
      · have g1 := b1 a0 n1
        rcases Nat.decEq a0 a with p | p
        · have e := h1 a0 a n2 ha p (by omega) (by rw [n3, ea])
          have l1 := n5 a ha ea fa
          rw [← g1]
          exact hG a0 a n2 ha (by omega) (by rw [n3, ea]) (by omega)
        · subst p; exact g1
  · rcases Nat.decEq d c with q | q
    · rw [ru_n q] at gd ⊢
      rcases Nat.decEq d' c with p | p
      · rw [ru_n p] at gd' ⊢
        exact hH d d' hd hd' gd gd' ht
      · subst p
        rw [ru_s]
        exact hh d hd gd ht
    · subst q
      rw [ru_s]
      rcases Nat.decEq d' d with p | p
      · rw [ru_n p] at gd' ⊢
        obtain ⟨a1, a2⟩ := hh d' hd' gd' ht.symm
        exact ⟨a1.symm, a2.symm⟩
      · subst p
        rw [ru_s]
        exact ⟨rfl, rfl⟩
  · refine ⟨(hB d hd).1, fun z => ?_⟩
    rcases Nat.decEq d c with q | q
    · rw [ru_n q] at z ⊢
      exact (hB d hd).2 z
    · subst q
      rw [ru_s]
      exact ⟨sc, hfm, hgo, hq⟩
theorem rd_change (h : rd_Safe len fm tt ps pg fr sp go zs) {c s n m : Nat} (hc : c < 32) (sc : 0 < ps c) (g0 : pg c = 0) (s0 : 0 < s) (hs : s ≠ ps c) (hq : rd_q s = rd_q (ps c))
    (hn : rd_Nr ps fr s (fr c) n) (b1 : ∀ a, n = a + 1 → rd_Fo (fr c) (sp c) (fr a) (sp a) (zs a))
    (hm : rd_Nu ps fr s (fr c) m) (b2 : ∀ b, m = b + 1 → pg b = 0 ∧ rd_Fo (fr b) (sp b) (fr c) (sp c) (zs c))
    (b3 : m = 0 → ∀ d, d < 32 → pg d ≠ s) : rd_Safe len fm tt (ru_p ps c s) pg fr sp go zs := by
  obtain ⟨h1, h2, h3, hG, hH, hB⟩ := h
  have ahead : ∀ a, a < 32 → ps a = s → fr c < fr a → rd_Fo (fr c) (sp c) (fr a) (sp a) (zs a) := by
    intro a ha ea fa
    rcases hn with ⟨n0, k⟩ | ⟨a0, n1, n2, n3, n4, n5⟩
    · exact absurd fa (k a ha ea)
    · rcases Nat.decEq a0 a with q | q
      · have e := h1 a0 a n2 ha q (by omega) (by rw [n3, ea])
        have l1 := n5 a ha ea fa
        exact rd_FoT (b1 a0 n1) (e.2 (by omega))
      · subst q; exact b1 a0 n1
  have behind : ∀ b, b < 32 → ps b = s → fr b ≤ fr c → rd_Fo (fr b) (sp b) (fr c) (sp c) (zs c) ∧ pg b = 0 := by
    intro b hb eb fb
    rcases hm with ⟨n0, k⟩ | ⟨b0, n1, n2, n3, n4, n5⟩
    · exact absurd fb (k b hb eb)
    · obtain ⟨p0, f0⟩ := b2 b0 n1
      rcases Nat.decEq b b0 with q | q
      · have e := h1 b b0 hb n2 q (by omega) (by rw [n3, eb])
        have l1 := n5 b hb eb fb
        have l2 : fr b < fr b0 := by have := e.1; omega
        refine ⟨rd_FoT (e.2 l2) f0, ?_⟩
        rcases Nat.eq_zero_or_pos (pg b) with z | z
        · exact z
        · have := hG b b0 hb n2 z (by rw [n3, eb]) l2
          omega
      · subst q; exact ⟨f0, p0⟩
  have granted : ∀ d, d < 32 → pg d = s → rd_Fo (fr d) (sp d) (fr c + len (rd_q (ps d))) (sp c) (zs c) := by
    intro d hd ed
    rcases hm with ⟨n0, k⟩ | ⟨b0, n1, n2, n3, n4, n5⟩
    · exact absurd ed (b3 n0 d hd)
    · obtain ⟨p0, f0⟩ := b2 b0 n1
      exact rd_FoT (h2 d b0 hd n2 (by omega) (by rw [n3, ed])) (rd_FoA _ f0)
  refine ⟨fun d a hd ha hda sd ea => ?_, fun d b hd hb gd eb => ?_, fun d hd sd => ?_, fun d a hd ha gd ea fa => ?_, fun d d' hd hd' gd gd' ht => ?_, fun d hd => ?_⟩
  · rcases Nat.decEq d c with q | q
    · rw [ru_n q] at sd ea
      rcases Nat.decEq a c with p | p
      · rw [ru_n p] at ea
        exact h1 d a hd ha hda sd ea
      · subst p
        rw [ru_s] at ea
        rcases Nat.lt_or_ge (fr a) (fr d) with k | k
        · exact ⟨by omega, fun z => by omega⟩
        · have f := (behind d hd ea.symm k).1
          exact ⟨by have := f.1; omega, fun _ => f⟩
    · subst q
      have p : a ≠ d := fun z => hda z.symm
      rw [ru_s, ru_n p] at ea
      rcases Nat.lt_or_ge (fr d) (fr a) with k | k
      · exact ⟨by omega, fun _ => ahead a ha ea k⟩
      · have f := (behind a ha ea k).1
        exact ⟨by have := f.1; omega, fun z => by omega⟩
  · have q : d ≠ c := by intro z; subst z; omega
    rw [ru_n q]
    rcases Nat.decEq b c with p | p
    · rw [ru_n p] at eb
      exact h2 d b hd hb gd eb
    · subst p
      rw [ru_s] at eb
      exact granted d hd eb.symm
  · rcases Nat.decEq d c with q | q
    · rw [ru_n q] at sd ⊢
      exact h3 d hd sd
    · subst q
      rw [ru_s, hq]
      exact h3 d hd sc
  · have q : d ≠ c := by intro z; subst z; omega
    rw [ru_n q] at ea
    rcases Nat.decEq a c with p | p
    · rw [ru_n p] at ea
      exact hG d a hd ha gd ea fa
    · subst p
      rw [ru_s] at ea
      have := (behind d hd ea.symm (by omega)).2
      omega
  · have q : d ≠ c := by intro z; subst z; omega
    have p : d' ≠ c := by intro z; subst z; omega
    rw [ru_n q, ru_n p] at ht
    rw [ru_n q, ru_n p]
    exact hH d d' hd hd' gd gd' ht
  · rcases Nat.decEq d c with q | q
    · rw [ru_n q]; exact hB d hd
    · subst q
      rw [ru_s, hq]
      exact ⟨fun _ => (hB d hd).1 sc, fun z => by omega⟩
theorem rd_enter (h : rd_Safe len fm tt ps pg fr sp go zs) {c s n : Nat} (hc : c < 32) (c0 : ps c = 0) (s0 : 0 < s) (hg : ∀ d, d < 32 → pg d ≠ s) (z1 : 1 ≤ zs c) (zl : zs c ≤ len (rd_q s))
    (hn : rd_Nr ps fr s 0 n) (b1 : ∀ a, n = a + 1 → zs c + zs a + 1 ≤ fr a) : rd_Safe len fm tt (ru_p ps c s) pg (ru_p fr c (zs c)) (ru_p sp c 0) go zs := by
  obtain ⟨h1, h2, h3, hG, hH, hB⟩ := h
  have p0 : pg c = 0 := by
    rcases Nat.eq_zero_or_pos (pg c) with z | z
    · exact z
    · have := ((hB c hc).2 z).1; omega
  have ahead : ∀ a, a < 32 → ps a = s → rd_Fo (zs c) 0 (fr a) (sp a) (zs a) := by
    intro a ha ea
    have f1 := ((hB a ha).1 (by omega)).1
    have key : zs c + zs a + 1 ≤ fr a := by
      rcases hn with ⟨n0, k⟩ | ⟨a0, n1, n2, n3, n4, n5⟩
      · exact absurd (by omega) (k a ha ea)
      · rcases Nat.decEq a0 a with q | q
        · have e := h1 a0 a n2 ha q (by omega) (by rw [n3, ea])
          have l1 := n5 a ha ea (by omega)
          have f := (e.2 (by omega)).1
          have := b1 a0 n1
          omega
        · subst q; exact b1 a0 n1
    unfold rd_Fo
    rw [rd_D0]
    omega
  refine ⟨fun d a hd ha hda sd ea => ?_, fun d b hd hb gd eb => ?_, fun d hd sd => ?_, fun d a hd ha gd ea fa => ?_, fun d d' hd hd' gd gd' ht => ?_, fun d hd => ?_⟩
  · rcases Nat.decEq d c with q | q
    · rw [ru_n q] at sd ea
      rw [ru_n q, ru_n q]
      rcases Nat.decEq a c with p | p
      · rw [ru_n p] at ea
        rw [ru_n p, ru_n p]
        exact h1 d a hd ha hda sd ea
      · subst p
        rw [ru_s] at ea
        rw [ru_s, ru_s]
        have f := (ahead d hd ea.symm).1
        exact ⟨by omega, fun z => by omega⟩
    · subst q
      have p : a ≠ d := fun z => hda z.symm
      rw [ru_s, ru_n p] at ea
      rw [ru_s, ru_s, ru_n p, ru_n p]
      have f := ahead a ha ea
      exact ⟨by have := f.1; omega, fun _ => f⟩
  · have q : d ≠ c := by intro z; subst z; omega
    rw [ru_n q, ru_n q, ru_n q]
    rcases Nat.decEq b c with p | p
    · rw [ru_n p] at eb
      rw [ru_n p, ru_n p]
      exact h2 d b hd hb gd eb
    · subst p
      rw [ru_s] at eb
      exact absurd eb.symm (hg d hd)
  · rcases Nat.decEq d c with q | q
    · rw [ru_n q] at sd ⊢
      rw [ru_n q, ru_n q]
      exact h3 d hd sd
    · subst q
      rw [ru_s, ru_s, ru_s, rd_D0]
      exact ⟨fun _ _ => by omega, fun z => by omega⟩
  · have q : d ≠ c := by intro z; subst z; omega
    rw [ru_n q] at ea fa
    rcases Nat.decEq a c with p | p
    · rw [ru_n p] at ea fa
      exact hG d a hd ha gd ea fa
    · subst p
      rw [ru_s] at ea fa
      have := (ahead d hd ea.symm).1
      omega
  · have q : d ≠ c := by intro z; subst z; omega
    have p : d' ≠ c := by intro z; subst z; omega
    rw [ru_n q, ru_n p] at ht
    rw [ru_n q, ru_n p]
    exact hH d d' hd hd' gd gd' ht
  · rcases Nat.decEq d c with q | q
    · rw [ru_n q, ru_n q]; exact hB d hd
    · subst q
      rw [ru_s, ru_s]
      exact ⟨fun _ => ⟨z1, zl⟩, fun z => by omega⟩
theorem rd_remove (h : rd_Safe len fm tt ps pg fr sp go zs) (c : Nat) : rd_Safe len fm tt (ru_p ps c 0) (ru_p pg c 0) fr sp go zs := by
  obtain ⟨h1, h2, h3, hG, hH, hB⟩ := h
  have np : ∀ {d : Nat}, 0 < ru_p ps c 0 d → d ≠ c := by intro d hd z; subst z; rw [ru_s] at hd; omega
  have ng : ∀ {d : Nat}, 0 < ru_p pg c 0 d → d ≠ c := by intro d hd z; subst z; rw [ru_s] at hd; omega
  refine ⟨fun d a hd ha hda sd ea => ?_, fun d b hd hb gd eb => ?_, fun d hd sd => ?_, fun d a hd ha gd ea fa => ?_, fun d d' hd hd' gd gd' ht => ?_, fun d hd => ⟨fun sd => ?_, fun gd => ?_⟩⟩
  · have q := np sd
    have p : a ≠ c := np (by omega)
    rw [ru_n q] at sd ea
    rw [ru_n p] at ea
    exact h1 d a hd ha hda sd ea
  · have q := ng gd
    have p : b ≠ c := np (by omega)
    rw [ru_n q] at gd eb
    rw [ru_n p] at eb
    rw [ru_n q]
    exact h2 d b hd hb gd eb
  · have q := np sd
    rw [ru_n q] at sd
    rw [ru_n q, ru_n q]
    exact h3 d hd sd
  · have q := ng gd
    rw [ru_n q] at gd ea
    have p : a ≠ c := by
      intro z; subst z; rw [ru_s] at ea
      have := ((hB d hd).2 gd).1
      omega
    rw [ru_n p] at ea
    rw [ru_n p, ru_n q]
    exact hG d a hd ha gd ea fa
  · have q := ng gd
    have p := ng gd'
    rw [ru_n q] at gd
    rw [ru_n p] at gd'
    rw [ru_n q, ru_n p] at ht
    rw [ru_n q, ru_n p, ru_n q, ru_n p]
    exact hH d d' hd hd' gd gd' ht
  · have q := np sd
    rw [ru_n q] at sd ⊢
    exact (hB d hd).1 sd
  · have q := ng gd
    rw [ru_n q] at gd
    rw [ru_n q, ru_n q]
    exact (hB d hd).2 gd
theorem rd_same (h : rd_Safe len fm tt ps pg fr sp go zs) (e : ∀ c, c < 32 → 0 < ps c → fr' c = fr c ∧ sp' c = sp c ∧ go' c = go c ∧ zs' c = zs c) : rd_Safe len fm tt ps pg fr' sp' go' zs' := by
  obtain ⟨h1, h2, h3, hG, hH, hB⟩ := h
  refine ⟨fun d a hd ha hda sd ea => ?_, fun d b hd hb gd eb => ?_, fun d hd sd => ?_, fun d a hd ha gd ea fa => ?_, hH, fun d hd => ⟨fun sd => ?_, fun gd => ?_⟩⟩
  · obtain ⟨e1, e2, _, _⟩ := e d hd sd
    obtain ⟨a1, a2, _, a4⟩ := e a ha (by omega)
    rw [e1, e2, a1, a2, a4]
    exact h1 d a hd ha hda sd ea
  · obtain ⟨e1, e2, _, _⟩ := e d hd ((hB d hd).2 gd).1
    obtain ⟨a1, a2, _, a4⟩ := e b hb (by omega)
    rw [e1, e2, a1, a2, a4]
    exact h2 d b hd hb gd eb
  · obtain ⟨e1, e2, e3, _⟩ := e d hd sd
    rw [e1, e2, e3]
    exact h3 d hd sd
  · have sd := ((hB d hd).2 gd).1
    obtain ⟨e1, _, _, _⟩ := e d hd sd
    obtain ⟨a1, _, _, _⟩ := e a ha (by omega)
    rw [e1, a1] at fa
    exact hG d a hd ha gd ea fa
  · obtain ⟨e1, _, _, _⟩ := e d hd sd
    rw [e1]
    exact (hB d hd).1 sd
  · obtain ⟨_, _, e3, _⟩ := e d hd ((hB d hd).2 gd).1
    rw [e3]
    exact (hB d hd).2 gd
theorem rd_aim (h : rd_Safe len fm tt ps pg fr sp go zs) {c g : Nat} (g0 : pg c = 0) (hg : 0 < ps c → g ≠ rd_q (ps c) → rd_D (sp c) + fr c ≤ len (rd_q (ps c))) : rd_Safe len fm tt ps pg fr sp (ru_p go c g) zs := by
  obtain ⟨h1, h2, h3, hG, hH, hB⟩ := h
  refine ⟨h1, h2, fun d hd sd => ?_, hG, hH, fun d hd => ⟨(hB d hd).1, fun gd => ?_⟩⟩
  · rcases Nat.decEq d c with q | q
    · rw [ru_n q]; exact h3 d hd sd
    · subst q
      rw [ru_s]
      exact ⟨fun _ z => hg sd z, fun z => by omega⟩
  · have q : d ≠ c := by intro z; subst z; omega
    rw [ru_n q]
    exact (hB d hd).2 gd
theorem rd_none (hp : ∀ c, c < 32 → ps c = 0) (hg : ∀ c, c < 32 → pg c = 0) : rd_Safe len fm tt ps pg fr sp go zs := by
  refine ⟨fun d a hd ha hda sd ea => ?_, fun d b hd hb gd eb => ?_, fun d hd sd => ?_, fun d a hd ha gd ea fa => ?_, fun d d' hd hd' gd gd' ht => ?_, fun d hd => ⟨fun sd => ?_, fun gd => ?_⟩⟩
  · have := hp d hd; omega
  · have := hg d hd; omega
  · have := hp d hd; omega
  · have := hg d hd; omega
  · have := hg d hd; omega
  · have := hp d hd; omega
  · have := hg d hd; omega
end
/-! the greatest speed up to s that P lets be -/
def rd_gr (P : Nat → Prop) (s u : Nat) : Prop := u ≤ s ∧ (u = 0 ∨ P u) ∧ ∀ x, u < x → x ≤ s → ¬ P x
theorem rd_gr2 {P Q : Nat → Prop} {s a b : Nat} (hP : ∀ x y, x ≤ y → 0 < x → P y → P x) (h : rd_gr P s a) (k : rd_gr Q a b) : rd_gr (fun x => P x ∧ Q x) s b := by
  obtain ⟨h1, h2, h3⟩ := h
  obtain ⟨k1, k2, k3⟩ := k
  refine ⟨by omega, ?_, fun x hx hs hn => ?_⟩
  · rcases k2 with k2 | k2
    · exact Or.inl k2
    · rcases Nat.eq_zero_or_pos b with z | z
      · exact Or.inl z
      · rcases h2 with h2 | h2
        · omega
        · exact Or.inr ⟨hP b a k1 z h2, k2⟩
  · rcases Nat.lt_or_ge a x with z | z
    · exact h3 x z hs hn.1
    · exact k3 x hx z hn.2
theorem rd_grU {P : Nat → Prop} {s a b : Nat} (h : rd_gr P s a) (k : rd_gr P s b) : a = b := by
  obtain ⟨h1, h2, h3⟩ := h
  obtain ⟨k1, k2, k3⟩ := k
  rcases Nat.lt_trichotomy a b with z | z | z
  · rcases k2 with k2 | k2
    · omega
    · exact absurd k2 (h3 b z k1)
  · exact z
  · rcases h2 with h2 | h2
    · omega
    · exact absurd h2 (k3 a z h1)
theorem rd_grL {P : Nat → Prop} {s u x : Nat} (h : rd_gr P s u) (hx : x ≤ s) (hp : x = 0 ∨ P x) : x ≤ u := by
  obtain ⟨h1, h2, h3⟩ := h
  rcases Nat.lt_or_ge u x with z | z
  · rcases hp with hp | hp
    · omega
    · exact absurd hp (h3 x z hx)
  · exact z
theorem rd_grE {P Q : Nat → Prop} {s u : Nat} (e : ∀ x, 0 < x → x ≤ s → (P x ↔ Q x)) (h : rd_gr P s u) : rd_gr Q s u := by
  obtain ⟨h1, h2, h3⟩ := h
  refine ⟨h1, ?_, fun x hx hs hq => h3 x hx hs ((e x (by omega) hs).mpr hq)⟩
  rcases Nat.eq_zero_or_pos u with z | z
  · exact Or.inl z
  · rcases h2 with h2 | h2
    · omega
    · exact Or.inr ((e u z h1).mp h2)
/-- speed u keeps clear of what moves with speed w behind the gap g -/
def rd_ok (g w u : Nat) : Prop := u ≤ g + (w - 2) ∧ u + rd_D u ≤ g + rd_D w
theorem rd_okD {g w : Nat} : ∀ x y, x ≤ y → 0 < x → rd_ok g w y → rd_ok g w x := by
  intro x y h _ k
  unfold rd_ok at *
  have := rd_Dm h
  omega
theorem rd_ok2 {g w v : Nat} (h : rd_D v ≤ g + rd_D w) : v - 2 = 0 ∨ rd_ok g w (v - 2) := by
  match v, h with
  | 0, _ => exact Or.inl rfl
  | 1, _ => exact Or.inl rfl
  | v + 2, h =>
    right
    have e : v + 2 - 2 = v := by omega
    rw [e]
    rw [rd_D2] at h
    exact ⟨rd_Dreach h, h⟩
end
section
/-! what the scans over the cars find -/
def rd_nr (ps fr : Nat → Nat) (s p : Nat) : Nat → Nat
  | 0 => 0
  | i + 1 => if ps i = s ∧ p < fr i ∧ (rd_nr ps fr s p i = 0 ∨ fr i < fr (rd_nr ps fr s p i - 1)) then i + 1 else rd_nr ps fr s p i
def rd_nu (ps fr : Nat → Nat) (s p : Nat) : Nat → Nat
  | 0 => 0
  | i + 1 => if ps i = s ∧ fr i ≤ p ∧ (rd_nu ps fr s p i = 0 ∨ fr (rd_nu ps fr s p i - 1) < fr i) then i + 1 else rd_nu ps fr s p i
def rd_fw (st ed tk : Nat → Nat) (e : Nat) : Nat → Nat
  | 0 => 0
  | i + 1 => if st i = 1 ∧ ed i = e ∧ (rd_fw st ed tk e i = 0 ∨ tk i < tk (rd_fw st ed tk e i - 1)) then i + 1 else rd_fw st ed tk e i
/-- how many of lane s stand above p -/
def rd_cb (ps fr : Nat → Nat) (s p : Nat) : Nat → Nat
  | 0 => 0
  | i + 1 => rd_cb ps fr s p i + (if ps i = s ∧ p < fr i then 1 else 0)
section
variable {ps fr st ed tk : Nat → Nat} {s p e : Nat}
theorem rd_nrS : ∀ i, (rd_nr ps fr s p i = 0 ∧ ∀ a, a < i → ps a = s → ¬ p < fr a) ∨ (∃ a, rd_nr ps fr s p i = a + 1 ∧ a < i ∧ ps a = s ∧ p < fr a ∧ ∀ b, b < i → ps b = s → p < fr b → fr a ≤ fr b)
  | 0 => Or.inl ⟨rfl, fun a h => absurd h (Nat.not_lt_zero a)⟩
  | i + 1 => by
    have ih := rd_nrS i
    simp only [rd_nr]
    by_cases h : ps i = s ∧ p < fr i ∧ (rd_nr ps fr s p i = 0 ∨ fr i < fr (rd_nr ps fr s p i - 1))
    · rw [if_pos h]
      obtain ⟨h1, h2, h3⟩ := h
      refine Or.inr ⟨i, rfl, by omega, h1, h2, fun b hb eb fb => ?_⟩
      rcases ih with ⟨k1, k2⟩ | ⟨a, k1, k2, k3, k4, k5⟩
      · rcases Nat.decEq b i with q | q
        · exact absurd fb (k2 b (by omega) eb)
        · subst q; exact Nat.le_refl _
      · have h4 : fr i < fr a := by
          rcases h3 with h3 | h3
          · omega
          · rw [k1] at h3; exact h3
        rcases Nat.decEq b i with q | q
        · have := k5 b (by omega) eb fb; omega
        · subst q; exact Nat.le_refl _
    · rw [if_neg h]
      rcases ih with ⟨k1, k2⟩ | ⟨a, k1, k2, k3, k4, k5⟩
      · refine Or.inl ⟨k1, fun a ha ea fa => ?_⟩
        rcases Nat.decEq a i with q | q
        · exact k2 a (by omega) ea fa
        · subst q; exact h ⟨ea, fa, Or.inl k1⟩
      · refine Or.inr ⟨a, k1, by omega, k3, k4, fun b hb eb fb => ?_⟩
        rcases Nat.decEq b i with q | q
        · exact k5 b (by omega) eb fb
        · subst q
          rcases Nat.lt_or_ge (fr b) (fr a) with z | z
          · exact absurd ⟨eb, fb, Or.inr (by rw [k1]; exact z)⟩ h
          · exact z
theorem rd_nuS : ∀ i, (rd_nu ps fr s p i = 0 ∧ ∀ a, a < i → ps a = s → ¬ fr a ≤ p) ∨ (∃ a, rd_nu ps fr s p i = a + 1 ∧ a < i ∧ ps a = s ∧ fr a ≤ p ∧ ∀ b, b < i → ps b = s → fr b ≤ p → fr b ≤ fr a)
  | 0 => Or.inl ⟨rfl, fun a h => absurd h (Nat.not_lt_zero a)⟩
  | i + 1 => by
    have ih := rd_nuS i
    simp only [rd_nu]
    by_cases h : ps i = s ∧ fr i ≤ p ∧ (rd_nu ps fr s p i = 0 ∨ fr (rd_nu ps fr s p i - 1) < fr i)
    · rw [if_pos h]
      obtain ⟨h1, h2, h3⟩ := h
      refine Or.inr ⟨i, rfl, by omega, h1, h2, fun b hb eb fb => ?_⟩
      rcases ih with ⟨k1, k2⟩ | ⟨a, k1, k2, k3, k4, k5⟩
      · rcases Nat.decEq b i with q | q
        · exact absurd fb (k2 b (by omega) eb)
        · subst q; exact Nat.le_refl _
      · have h4 : fr a < fr i := by
          rcases h3 with h3 | h3
          · omega
          · rw [k1] at h3; exact h3
        rcases Nat.decEq b i with q | q
        · have := k5 b (by omega) eb fb; omega
        · subst q; exact Nat.le_refl _
    · rw [if_neg h]
      rcases ih with ⟨k1, k2⟩ | ⟨a, k1, k2, k3, k4, k5⟩
      · refine Or.inl ⟨k1, fun a ha ea fa => ?_⟩
        rcases Nat.decEq a i with q | q
        · exact k2 a (by omega) ea fa
        · subst q; exact h ⟨ea, fa, Or.inl k1⟩
      · refine Or.inr ⟨a, k1, by omega, k3, k4, fun b hb eb fb => ?_⟩
        rcases Nat.decEq b i with q | q
        · exact k5 b (by omega) eb fb
        · subst q
          rcases Nat.lt_or_ge (fr a) (fr b) with z | z
          · exact absurd ⟨eb, fb, Or.inr (by rw [k1]; exact z)⟩ h
          · exact z
theorem rd_nrP {i : Nat} (h : ps i = s ∧ p < fr i ∧ (rd_nr ps fr s p i = 0 ∨ fr i < fr (rd_nr ps fr s p i - 1))) : rd_nr ps fr s p (i + 1) = i + 1 := if_pos h
theorem rd_nrQ {i : Nat} (h : ¬ (ps i = s ∧ p < fr i ∧ (rd_nr ps fr s p i = 0 ∨ fr i < fr (rd_nr ps fr s p i - 1)))) : rd_nr ps fr s p (i + 1) = rd_nr ps fr s p i := if_neg h
theorem rd_nuP {i : Nat} (h : ps i = s ∧ fr i ≤ p ∧ (rd_nu ps fr s p i = 0 ∨ fr (rd_nu ps fr s p i - 1) < fr i)) : rd_nu ps fr s p (i + 1) = i + 1 := if_pos h
theorem rd_nuQ {i : Nat} (h : ¬ (ps i = s ∧ fr i ≤ p ∧ (rd_nu ps fr s p i = 0 ∨ fr (rd_nu ps fr s p i - 1) < fr i))) : rd_nu ps fr s p (i + 1) = rd_nu ps fr s p i := if_neg h
theorem rd_fwP {i : Nat} (h : st i = 1 ∧ ed i = e ∧ (rd_fw st ed tk e i = 0 ∨ tk i < tk (rd_fw st ed tk e i - 1))) : rd_fw st ed tk e (i + 1) = i + 1 := if_pos h
theorem rd_fwQ {i : Nat} (h : ¬ (st i = 1 ∧ ed i = e ∧ (rd_fw st ed tk e i = 0 ∨ tk i < tk (rd_fw st ed tk e i - 1)))) : rd_fw st ed tk e (i + 1) = rd_fw st ed tk e i := if_neg h
theorem rd_cbP {i : Nat} (h : ps i = s ∧ p < fr i) : rd_cb ps fr s p (i + 1) = rd_cb ps fr s p i + 1 := by simp only [rd_cb]; rw [if_pos h]
theorem rd_cbQ {i : Nat} (h : ¬ (ps i = s ∧ p < fr i)) : rd_cb ps fr s p (i + 1) = rd_cb ps fr s p i := by simp only [rd_cb]; rw [if_neg h]; rfl
theorem rd_nrN : rd_Nr ps fr s p (rd_nr ps fr s p 32) := rd_nrS 32
theorem rd_nuN : rd_Nu ps fr s p (rd_nu ps fr s p 32) := rd_nuS 32
theorem rd_nrL (i : Nat) : rd_nr ps fr s p i ≤ i := by
  rcases rd_nrS (ps := ps) (fr := fr) (s := s) (p := p) i with ⟨k1, _⟩ | ⟨a, k1, k2, _⟩ <;> omega
theorem rd_nuL (i : Nat) : rd_nu ps fr s p i ≤ i := by
  rcases rd_nuS (ps := ps) (fr := fr) (s := s) (p := p) i with ⟨k1, _⟩ | ⟨a, k1, k2, _⟩ <;> omega
theorem rd_fwS : ∀ i, rd_fw st ed tk e i = 0 ∨ (∃ a, rd_fw st ed tk e i = a + 1 ∧ a < i ∧ st a = 1 ∧ ed a = e)
  | 0 => Or.inl rfl
  | i + 1 => by
    have ih := rd_fwS i
    simp only [rd_fw]
    by_cases h : st i = 1 ∧ ed i = e ∧ (rd_fw st ed tk e i = 0 ∨ tk i < tk (rd_fw st ed tk e i - 1))
    · rw [if_pos h]
      exact Or.inr ⟨i, rfl, by omega, h.1, h.2.1⟩
    · rw [if_neg h]
      rcases ih with k | ⟨a, k1, k2, k3, k4⟩
      · exact Or.inl k
      · exact Or.inr ⟨a, k1, by omega, k3, k4⟩
theorem rd_fwL (i : Nat) : rd_fw st ed tk e i ≤ i := by
  rcases rd_fwS (st := st) (ed := ed) (tk := tk) (e := e) i with k1 | ⟨a, k1, k2, _⟩ <;> omega
theorem rd_cbL : ∀ i, rd_cb ps fr s p i ≤ i
  | 0 => Nat.le_refl _
  | i + 1 => by
    have := rd_cbL i
    simp only [rd_cb]
    split <;> omega
theorem rd_cbE {p' : Nat} : ∀ {i : Nat}, (∀ a, a < i → ps a = s → (p < fr a ↔ p' < fr a)) → rd_cb ps fr s p i = rd_cb ps fr s p' i
  | 0, _ => rfl
  | i + 1, h => by
    have ih := rd_cbE (p' := p') (i := i) (fun a ha => h a (by omega))
    have hi := h i (by omega)
    simp only [rd_cb]
    by_cases q : ps i = s
    · have := hi q
      by_cases z : p < fr i
      · rw [if_pos ⟨q, z⟩, if_pos ⟨q, this.mp z⟩, ih]
      · rw [if_neg (fun w => z w.2), if_neg (fun w => z (this.mpr w.2)), ih]
    · rw [if_neg (fun w => q w.1), if_neg (fun w => q w.1), ih]
theorem rd_cb0 : ∀ {i : Nat}, (∀ a, a < i → ps a = s → ¬ p < fr a) → rd_cb ps fr s p i = 0
  | 0, _ => rfl
  | i + 1, h => by
    have ih := rd_cb0 (i := i) (fun a ha => h a (by omega))
    simp only [rd_cb]
    rw [if_neg (fun w => h i (by omega) w.1 w.2), ih]
/-- one more when the bound falls below just one of them -/
theorem rd_cb1 {p' a : Nat} (ea : ps a = s) (h1 : ¬ p < fr a) (h2 : p' < fr a) : ∀ {i : Nat}, a < i → (∀ b, b < i → b ≠ a → ps b = s → (p < fr b ↔ p' < fr b)) → rd_cb ps fr s p' i = rd_cb ps fr s p i + 1
  | 0, h, _ => by omega
  | i + 1, h, hb => by
    simp only [rd_cb]
    rcases Nat.decEq a i with q | q
    · have ih := rd_cb1 ea h1 h2 (i := i) (by omega) (fun b hb' => hb b (by omega))
      by_cases w : ps i = s
      · have := hb i (by omega) (fun z => q z.symm) w
        by_cases z : p < fr i
        · rw [if_pos ⟨w, this.mp z⟩, if_pos ⟨w, z⟩]; omega
        · rw [if_neg (fun y => z (this.mpr y.2)), if_neg (fun y => z y.2)]; omega
      · rw [if_neg (fun y => w y.1), if_neg (fun y => w y.1)]; omega
    · subst q
      have ih : rd_cb ps fr s p a = rd_cb ps fr s p' a := rd_cbE (fun b hb' eb => hb b (by omega) (by omega) eb)
      rw [if_pos ⟨ea, h2⟩, if_neg (fun y => h1 y.2)]; omega
theorem rd_cbM {p' : Nat} (h : p' ≤ p) : ∀ i, rd_cb ps fr s p i ≤ rd_cb ps fr s p' i
  | 0 => Nat.le_refl _
  | i + 1 => by
    have ih := rd_cbM h i
    simp only [rd_cb]
    by_cases z : ps i = s ∧ p < fr i
    · rw [if_pos z, if_pos ⟨z.1, by omega⟩]; omega
    · rw [if_neg z]; omega
theorem rd_cbS {p' a : Nat} (h : p' ≤ p) (ea : ps a = s) (h1 : ¬ p < fr a) (h2 : p' < fr a) : ∀ {i : Nat}, a < i → rd_cb ps fr s p i < rd_cb ps fr s p' i
  | 0, k => by omega
  | i + 1, k => by
    simp only [rd_cb]
    rcases Nat.decEq a i with q | q
    · have ih := rd_cbS h ea h1 h2 (i := i) (by omega)
      by_cases z : ps i = s ∧ p < fr i
      · rw [if_pos z, if_pos ⟨z.1, by omega⟩]; omega
      · rw [if_neg z]; omega
    · subst q
      have ih := rd_cbM (ps := ps) (fr := fr) (s := s) h a
      rw [if_neg (fun y => h1 y.2), if_pos ⟨ea, h2⟩]; omega
end
/-! the k-th car of a lane -/
def rd_Kth (ps fr : Nat → Nat) (s k n : Nat) : Prop := (n = 0 ∧ ∀ c, c < 32 → ps c = s → rd_cb ps fr s (fr c) 32 ≠ k) ∨ (∃ c, n = c + 1 ∧ c < 32 ∧ ps c = s ∧ rd_cb ps fr s (fr c) 32 = k)
section
variable {ps fr sp zs : Nat → Nat} {s k : Nat}
theorem rd_KthU (h1 : rd_S1 ps fr sp zs) (s0 : 0 < s) {n n' : Nat} (h : rd_Kth ps fr s k n) (h' : rd_Kth ps fr s k n') : n = n' := by
  rcases h with ⟨a1, a2⟩ | ⟨c, a1, a2, a3, a4⟩
  · rcases h' with ⟨b1, b2⟩ | ⟨d, b1, b2, b3, b4⟩
    · omega
    · exact absurd b4 (a2 d b2 b3)
  · rcases h' with ⟨b1, b2⟩ | ⟨d, b1, b2, b3, b4⟩
    · exact absurd a4 (b2 c a2 a3)
    · rcases Nat.decEq c d with q | q
      · exfalso
        have e := (h1 c d a2 b2 q (by omega) (by omega)).1
        rcases Nat.lt_or_gt_of_ne e with z | z
        · have := rd_cbS (ps := ps) (fr := fr) (s := s) (Nat.le_of_lt z) b3 (Nat.lt_irrefl _) z b2
          omega
        · have := rd_cbS (ps := ps) (fr := fr) (s := s) (Nat.le_of_lt z) a3 (Nat.lt_irrefl _) z a2
          omega
      · omega
/-- Y goes from one to the next below it -/
theorem rd_KthS (h1 : rd_S1 ps fr sp zs) (s0 : 0 < s) {p i a : Nat} (hi : rd_cb ps fr s p 32 = i) (ha : rd_nu ps fr s p 32 = a + 1) : a < 32 ∧ ps a = s ∧ fr a ≤ p ∧ rd_cb ps fr s (fr a) 32 = i ∧ (1 ≤ fr a → rd_cb ps fr s (fr a - 1) 32 = i + 1) := by
  rcases rd_nuS (ps := ps) (fr := fr) (s := s) (p := p) 32 with ⟨k1, _⟩ | ⟨b, k1, k2, k3, k4, k5⟩
  · omega
  · have e : b = a := by omega
    subst e
    have d : ∀ c, c < 32 → c ≠ b → ps c = s → (p < fr c ↔ fr b < fr c) := by
      intro c hc cb ec
      have e1 := (h1 c b hc k2 cb (by omega) (by omega)).1
      constructor
      · intro z; omega
      · intro z
        rcases Nat.lt_or_ge p (fr c) with w | w
        · exact w
        · have := k5 c hc ec w; omega
    refine ⟨k2, k3, k4, ?_, fun f1 => ?_⟩
    · rw [← hi]
      refine (rd_cbE (fun c hc ec => ?_)).symm
      rcases Nat.decEq c b with q | q
      · exact d c hc q ec
      · subst q; omega
    · rw [← hi]
      refine rd_cb1 k3 (by omega) (by omega) k2 (fun c hc cb ec => ?_)
      have := d c hc cb ec
      have e1 := (h1 c b hc k2 cb (by omega) (by omega)).1
      omega
theorem rd_KthN (s0 : 0 < s) {p i : Nat} (hi : rd_cb ps fr s p 32 = i) (hk : i ≤ k) (ha : rd_nu ps fr s p 32 = 0) : rd_Kth ps fr s k 0 := by
  refine Or.inl ⟨rfl, fun c hc ec z => ?_⟩
  rcases rd_nuS (ps := ps) (fr := fr) (s := s) (p := p) 32 with ⟨_, k2⟩ | ⟨b, k1, _⟩
  · have w := k2 c hc ec
    have := rd_cbS (ps := ps) (fr := fr) (s := s) (p := fr c) (p' := p) (by omega) ec (Nat.lt_irrefl _) (by omega) hc
    omega
  · omega
end
end
section
/-! the numbers behind both states, and what the private methods decide -/
def rq_ld (ln fm tt mk : Nat → Nat) (s f : Nat) : Prop := 0 < ln f ∧ fm f = tt (s / 2) ∧ rd_bt (mk s) f
def rq_el (ln fm tt mk : Nat → Nat) (e f : Nat) : Prop := rq_ld ln fm tt mk (2 * e) f ∨ (ln e = 2 ∧ rq_ld ln fm tt mk (2 * e + 1) f)
def rq_K (ln fm tt op mk : Nat → Nat) (e f : Nat) : Prop := 0 < ln e ∧ op f = 1 ∧ rq_el ln fm tt mk e f
def rq_co (le li we : Nat → Nat) (f : Nat) : Nat := (le f + li f - 1) / li f + we f
def rq_E (ln fm tt le li rk we op mk : Nat → Nat) : Prop :=
  (∀ e, ln e ≤ 2 ∧ fm e < 8 ∧ tt e < 8 ∧ le e ≤ 200 ∧ li e ≤ 12 ∧ rk e ≤ 3 ∧ we e ≤ 1000 ∧ op e ≤ 1 ∧ mk e < 65536) ∧
  (∀ e, 0 < ln e → fm e ≠ tt e ∧ 20 ≤ le e ∧ 1 ≤ li e) ∧ (∀ e, ln e = 0 → op e = 0)
def rq_WX (ln fm tt le li we op mk wd wn : Nat → Nat) : Prop := ∀ g, g < 16 → ∃ T, ry_Bel (rq_K ln fm tt op mk) (rq_co le li we) g (0 < ln g) T ∧
  (∀ e, e < 16 → T e < 1000000 → T e ≤ 400000) ∧ (∀ e, e < 16 → wd (16 * e + g) = if T e < 1000000 then T e + 1 else 0) ∧
  (∀ e, e < 16 → e = g → wn (16 * e + g) = 0) ∧ (∀ e, e < 16 → e ≠ g → ry_Nx (rq_K ln fm tt op mk) (rq_co le li we) T e (wn (16 * e + g)))
def rq_WY (ln fm tt le li we op mk fa : Nat → Nat) (kn : Nat) : Prop := kn = 0 ∨ (kn = 1 ∧ ∀ g, g < 16 → ry_Bel (rq_K ln fm tt op mk) (rq_co le li we) g (0 < ln g) (fun e => fa (16 * g + e)))
def rq_P (pc ph pa pe pt se ls mo : Nat → Nat) (N : Nat) : Prop := ∀ j, j < 8 → pc j ≤ 4 ∧ (pc j = 0 → ph j = 0 ∧ pa j = 0) ∧ (0 < pc j → ph j < pc j) ∧ pa j ≤ N ∧
  (∀ k, k < pc j → pe (4 * j + k) = se (4 * j + k) ∧ se (4 * j + k) < 65536 ∧ pt (4 * j + k) = ls (4 * j + k) + 100 * mo (4 * j + k) ∧ ls (4 * j + k) < 100 ∧ mo (4 * j + k) < 100)
def rq_Ty (tp ac sz dw : Nat → Nat) : Prop := ∀ t, t < 4 → 1 ≤ tp t ∧ tp t ≤ 12 ∧ 1 ≤ ac t ∧ ac t ≤ 3 ∧ 3 ≤ sz t ∧ sz t ≤ 8 ∧ dw t ≤ 9
def rq_C (ln st ty ed fr sp go tk en ch ps pg cf ct la gr cr ne nl oe ol fl : Nat → Nat) (tn N : Nat) : Prop :=
  (∀ c, st c ≤ 2 ∧ ty c < 4 ∧ ed c < 16 ∧ go c < 16 ∧ fr c ≤ 400 ∧ sp c ≤ 12 ∧ tk c ≤ tn ∧ en c ≤ N ∧ ch c ≤ N + 1 ∧ la c ≤ 1) ∧
  (∀ c, c < 32 → (st c ≠ 0 → 0 < ln (ed c) ∧ 0 < ln (go c)) ∧ (st c = 2 → ps c = 2 * ed c + la c + 1 ∧ la c < ln (ed c)) ∧ (st c ≠ 2 → ps c = 0 ∧ pg c = 0 ∧ cf c = 0) ∧
    ((pg c = 0 ∧ gr c = 0) ∨ (gr c = 1 ∧ pg c = 2 * ne c + nl c + 1 ∧ nl c < ln (ne c) ∧ ne c < 16)) ∧
    (st c = 2 → (cf c = 0 ∧ cr c = 0) ∨ (cr c = 1 ∧ cf c = 2 * oe c + ol c + 1 ∧ ol c < 2 ∧ oe c < 16 ∧ ct c = 2 * ed c + fl c + 1 ∧ fl c < 2)))
/-- GREEN -/
def rq_gn (tt pc ph pe : Nat → Nat) (e : Nat) : Prop := pc (tt e) = 0 ∨ rd_bt (pe (4 * tt e + ph (tt e))) e
/-- the spot to ask for, from NEXT's code n and the own spot's code p -/
def rq_as (ln : Nat → Nat) (n p : Nat) : Nat := if n = 0 then 0 else if ln (n - 1) = 2 then 2 * (n - 1) + (p - 1) % 2 + 1 else 2 * (n - 1) + 1
def rq_nx (wn ed go : Nat → Nat) (c : Nat) : Nat := wn (16 * ed c + go c)
def rq_ask (ln fm tt le mk wn pc ph pe st ed fr go ps pg : Nat → Nat) (j c : Nat) : Prop :=
  st c = 2 ∧ tt (ed c) = j ∧ pg c = 0 ∧ go c ≠ ed c ∧ le (ed c) ≤ fr c + 40 ∧ rq_gn tt pc ph pe (ed c) ∧ 0 < rq_nx wn ed go c ∧ rq_ld ln fm tt mk (ps c - 1) (rq_nx wn ed go c - 1) ∧
  (rd_nr ps fr (ps c) (fr c) 32 = 0 ∨ pg (rd_nr ps fr (ps c) (fr c) 32 - 1) = rq_as ln (rq_nx wn ed go c) (ps c))
/-- stands before -/
def rq_bf (rk le ed fr ps : Nat → Nat) (c d : Nat) : Prop := rk (ed d) < rk (ed c) ∨ (rk (ed c) = rk (ed d) ∧ (le (ed c) + fr d < le (ed d) + fr c ∨ (le (ed c) + fr d = le (ed d) + fr c ∧ ps c < ps d)))
/-- SAFE as if granted s -/
def rq_cs (le ed fr sp go ps zs : Nat → Nat) (s c : Nat) : Prop :=
  (go c ≠ rd_q s → rd_D (sp c) + fr c ≤ le (ed c) + le (rd_q s)) ∧
  (∀ a, rd_nr ps fr (ps c) (fr c) 32 = a + 1 → rd_Fo (fr c) (sp c) (fr a) (sp a) (zs a)) ∧
  (rd_nr ps fr (ps c) (fr c) 32 = 0 → ∀ b, rd_nr ps fr s 0 32 = b + 1 → rd_Fo (fr c) (sp c) (fr b + le (ed c)) (sp b) (zs b))
/-- bound to cross j -/
def rq_bd (tt ed pg : Nat → Nat) (j d : Nat) : Prop := pg d ≠ 0 ∧ tt (ed d) = j
def rq_hd (fm tt ed fr pg cf zs : Nat → Nat) (j d : Nat) : Prop := (cf d ≠ 0 ∧ fm (ed d) = j ∧ fr d < zs d) ∨ rq_bd tt ed pg j d
noncomputable def rq_hf (tt ed ps pg cf : Nat → Nat) (j d : Nat) : Nat := @ite Nat (rq_bd tt ed pg j d) (Classical.propDecidable _) (ps d) (cf d)
noncomputable def rq_ht (tt ed pg ct : Nat → Nat) (j d : Nat) : Nat := @ite Nat (rq_bd tt ed pg j d) (Classical.propDecidable _) (pg d) (ct d)
def rq_mh (fm tt rk le ed fr ps pg cf ct zs : Nat → Nat) (A : Nat → Prop) (j s c : Nat) : Prop :=
  (∀ d, d < 32 → rq_hd fm tt ed fr pg cf zs j d → rq_hf tt ed ps pg cf j d = ps c ∧ rq_ht tt ed pg ct j d = s) ∧
  ((∃ d, d < 32 ∧ rq_hd fm tt ed fr pg cf zs j d) → ∀ b, b < 32 → A b → ps b ≠ ps c → ¬ rq_bf rk le ed fr ps b c)
/-- the first of those that P picks, in the order B -/
noncomputable def rq_1st (P : Nat → Prop) (B : Nat → Nat → Prop) : Nat → Nat
  | 0 => 0
  | i + 1 => @ite Nat (P i ∧ (rq_1st P B i = 0 ∨ B i (rq_1st P B i - 1))) (Classical.propDecidable _) (i + 1) (rq_1st P B i)
theorem rq_1stS (P : Nat → Prop) (B : Nat → Nat → Prop) : ∀ i, rq_1st P B i = 0 ∨ ∃ a, rq_1st P B i = a + 1 ∧ a < i ∧ P a
  | 0 => Or.inl rfl
  | i + 1 => by
    have ih := rq_1stS P B i
    simp only [rq_1st]
    by_cases h : P i ∧ (rq_1st P B i = 0 ∨ B i (rq_1st P B i - 1))
    · rw [if_pos h]; exact Or.inr ⟨i, rfl, by omega, h.1⟩
    · rw [if_neg h]
      rcases ih with k | ⟨a, k1, k2, k3⟩
      · exact Or.inl k
      · exact Or.inr ⟨a, k1, by omega, k3⟩
theorem rq_1stP {P : Nat → Prop} {B : Nat → Nat → Prop} {i : Nat} (h : P i ∧ (rq_1st P B i = 0 ∨ B i (rq_1st P B i - 1))) : rq_1st P B (i + 1) = i + 1 := by
  simp only [rq_1st]; rw [if_pos h]
theorem rq_1stN {P : Nat → Prop} {B : Nat → Nat → Prop} {i : Nat} (h : ¬ (P i ∧ (rq_1st P B i = 0 ∨ B i (rq_1st P B i - 1)))) : rq_1st P B (i + 1) = rq_1st P B i := by
  simp only [rq_1st]; rw [if_neg h]
/-- LANES: may, wants, has room; o is the other spot's code -/
def rq_may (pg ch : Nat → Nat) (N c : Nat) : Prop := pg c = 0 ∧ (ch c = 0 ∨ ch c + 4 ≤ N)
def rq_wants (ln fm tt mk tp ty ed fr sp go ps zs : Nat → Nat) (n o c : Nat) : Prop :=
  (0 < n ∧ rq_ld ln fm tt mk (o - 1) (n - 1) ∧ ¬ rq_ld ln fm tt mk (ps c - 1) (n - 1)) ∨
  (∃ a, rd_nr ps fr (ps c) (fr c) 32 = a + 1 ∧ sp a < tp (ty c) ∧ fr a < zs a + 1 + fr c + 20 ∧
    (rd_nr ps fr o (fr c) 32 = 0 ∨ fr a + zs (rd_nr ps fr o (fr c) 32 - 1) + 10 ≤ fr (rd_nr ps fr o (fr c) 32 - 1) + zs a) ∧
    ((0 < n ∧ rq_ld ln fm tt mk (o - 1) (n - 1)) ∨ go c = ed c))
def rq_room (fr sp ps pg zs : Nat → Nat) (o c : Nat) : Prop :=
  (∀ a, rd_nr ps fr o (fr c) 32 = a + 1 → rd_Fo (fr c) (sp c) (fr a) (sp a) (zs a)) ∧
  (rd_nu ps fr o (fr c) 32 = 0 → ∀ d, d < 32 → pg d ≠ o) ∧
  (∀ b, rd_nu ps fr o (fr c) 32 = b + 1 → pg b = 0 ∧ rd_Fo (fr b) (sp b) (fr c) (sp c) (zs c))
/-- the code of the spot beside -/
def rq_ot (p : Nat) : Nat := if (p - 1) % 2 = 0 then p + 1 else p - 1
theorem rq_otE {e l : Nat} (h : l ≤ 1) : rq_ot (2 * e + l + 1) = 2 * e + (1 - l) + 1 := by
  unfold rq_ot
  split <;> omega
theorem rq_coB {ln fm tt le li rk we op mk : Nat → Nat} (h : rq_E ln fm tt le li rk we op mk) {f : Nat} (hf : 0 < ln f) : 1 ≤ rq_co le li we f ∧ rq_co le li we f ≤ 1211 := by
  obtain ⟨h1, h2, h3⟩ := h
  have a := h1 f
  have b := h2 f hf
  unfold rq_co
  have d1 : (le f + li f - 1) / li f ≤ le f + li f - 1 := Nat.div_le_self _ _
  have d2 : 1 ≤ (le f + li f - 1) / li f := (Nat.le_div_iff_mul_le (by omega)).mpr (by omega)
  omega
theorem rq_Kf {ln fm tt op mk : Nat → Nat} {e f : Nat} (h : rq_K ln fm tt op mk e f) : 0 < ln f ∧ 0 < ln e ∧ op f = 1 ∧ fm f = tt e := by
  obtain ⟨h1, h2, h3⟩ := h
  rcases h3 with h3 | ⟨_, h3⟩
  · exact ⟨h3.1, h1, h2, by have := h3.2.1; rw [this]; congr 1; omega⟩
  · exact ⟨h3.1, h1, h2, by have := h3.2.1; rw [this]; congr 1; omega⟩
end
section
/-! LANES: the one that stands foremost against the positions one by one -/
def rd_fo (st ed fr ps : Nat → Nat) (dn : Nat → Bool) (e : Nat) : Nat → Nat
  | 0 => 0
  | i + 1 => if st i = 2 ∧ ed i = e ∧ dn i = false ∧ (rd_fo st ed fr ps dn e i = 0 ∨ fr (rd_fo st ed fr ps dn e i - 1) < fr i ∨ (fr i = fr (rd_fo st ed fr ps dn e i - 1) ∧ ps i < ps (rd_fo st ed fr ps dn e i - 1))) then i + 1 else rd_fo st ed fr ps dn e i
def rd_bc (p : Nat → Bool) : Nat → Nat
  | 0 => 0
  | i + 1 => rd_bc p i + (if p i = true then 1 else 0)
theorem rd_bcL (p : Nat → Bool) : ∀ i, rd_bc p i ≤ i
  | 0 => Nat.le_refl _
  | i + 1 => by
    have := rd_bcL p i
    simp only [rd_bc]
    split <;> omega
theorem rd_bcE {p q : Nat → Bool} : ∀ {i : Nat}, (∀ a, a < i → p a = q a) → rd_bc p i = rd_bc q i
  | 0, _ => rfl
  | i + 1, h => by
    have ih := rd_bcE (p := p) (q := q) (i := i) (fun a ha => h a (by omega))
    simp only [rd_bc]
    rw [ih, h i (by omega)]
theorem rd_bcD {p q : Nat → Bool} {c : Nat} (hp : p c = true) (hq : q c = false) : ∀ {i : Nat}, c < i → (∀ a, a < i → a ≠ c → p a = q a) → rd_bc q i + 1 = rd_bc p i
  | 0, h, _ => by omega
  | i + 1, h, k => by
    simp only [rd_bc]
    rcases Nat.decEq c i with z | z
    · have ih := rd_bcD hp hq (i := i) (by omega) (fun a ha => k a (by omega))
      rw [k i (by omega) (fun y => z y.symm)]
      omega
    · subst z
      have ih : rd_bc p c = rd_bc q c := rd_bcE (fun a ha => k a (by omega) (by omega))
      rw [if_pos hp, if_neg (by rw [hq]; decide), ih]
section
variable {st ed fr ps la ch la' ch' sp zs : Nat → Nat} {dn dn' : Nat → Bool} {e N f l : Nat}
theorem rd_foS : ∀ i, (rd_fo st ed fr ps dn e i = 0 ∧ ∀ a, a < i → st a = 2 → ed a = e → dn a = true) ∨
    (∃ a, rd_fo st ed fr ps dn e i = a + 1 ∧ a < i ∧ st a = 2 ∧ ed a = e ∧ dn a = false ∧ ∀ b, b < i → st b = 2 → ed b = e → dn b = false → fr b < fr a ∨ (fr b = fr a ∧ ps a ≤ ps b))
  | 0 => Or.inl ⟨rfl, fun a h => absurd h (Nat.not_lt_zero a)⟩
  | i + 1 => by
    have ih := rd_foS i
    simp only [rd_fo]
    by_cases h : st i = 2 ∧ ed i = e ∧ dn i = false ∧ (rd_fo st ed fr ps dn e i = 0 ∨ fr (rd_fo st ed fr ps dn e i - 1) < fr i ∨ (fr i = fr (rd_fo st ed fr ps dn e i - 1) ∧ ps i < ps (rd_fo st ed fr ps dn e i - 1)))
    · rw [if_pos h]
      obtain ⟨h1, h2, h3, h4⟩ := h
      refine Or.inr ⟨i, rfl, by omega, h1, h2, h3, fun b hb b1 b2 b3 => ?_⟩
      rcases Nat.decEq b i with q | q
      · rcases ih with ⟨k1, k2⟩ | ⟨a, k1, k2, k3, k4, k5, k6⟩
        · have := k2 b (by omega) b1 b2
          rw [this] at b3; exact absurd b3 (by decide)
        · have := k6 b (by omega) b1 b2 b3
          rw [k1] at h4
          have e1 : a + 1 - 1 = a := by omega
          rw [e1] at h4
          rcases h4 with h4 | h4 | h4 <;> omega
      · subst q; exact Or.inr ⟨rfl, Nat.le_refl _⟩
    · rw [if_neg h]
      rcases ih with ⟨k1, k2⟩ | ⟨a, k1, k2, k3, k4, k5, k6⟩
      · refine Or.inl ⟨k1, fun a ha a1 a2 => ?_⟩
        rcases Nat.decEq a i with q | q
        · exact k2 a (by omega) a1 a2
        · subst q
          rcases z : dn a with _ | _
          · exact absurd ⟨a1, a2, z, Or.inl k1⟩ h
          · rfl
      · refine Or.inr ⟨a, k1, by omega, k3, k4, k5, fun b hb b1 b2 b3 => ?_⟩
        rcases Nat.decEq b i with q | q
        · exact k6 b (by omega) b1 b2 b3
        · subst q
          rcases Nat.lt_trichotomy (fr b) (fr a) with z | z | z
          · exact Or.inl z
          · rcases Nat.lt_or_ge (ps b) (ps a) with w | w
            · exact absurd ⟨b1, b2, b3, Or.inr (Or.inr (by rw [k1]; exact ⟨z, w⟩))⟩ h
            · exact Or.inr ⟨z, w⟩
          · exact absurd ⟨b1, b2, b3, Or.inr (Or.inl (by rw [k1]; exact z))⟩ h
theorem rd_foP {i : Nat} (h : st i = 2 ∧ ed i = e ∧ dn i = false ∧ (rd_fo st ed fr ps dn e i = 0 ∨ fr (rd_fo st ed fr ps dn e i - 1) < fr i ∨ (fr i = fr (rd_fo st ed fr ps dn e i - 1) ∧ ps i < ps (rd_fo st ed fr ps dn e i - 1)))) : rd_fo st ed fr ps dn e (i + 1) = i + 1 := if_pos h
theorem rd_foQ {i : Nat} (h : ¬ (st i = 2 ∧ ed i = e ∧ dn i = false ∧ (rd_fo st ed fr ps dn e i = 0 ∨ fr (rd_fo st ed fr ps dn e i - 1) < fr i ∨ (fr i = fr (rd_fo st ed fr ps dn e i - 1) ∧ ps i < ps (rd_fo st ed fr ps dn e i - 1))))) : rd_fo st ed fr ps dn e (i + 1) = rd_fo st ed fr ps dn e i := if_neg h
theorem rd_foL (i : Nat) : rd_fo st ed fr ps dn e i ≤ i := by
  rcases rd_foS (st := st) (ed := ed) (fr := fr) (ps := ps) (dn := dn) (e := e) i with ⟨k1, _⟩ | ⟨a, k1, k2, _⟩ <;> omega
/-- Y is about to look at lane l of position f; dn are those that X has done -/
def rd_LI (N e f l : Nat) (dn : Nat → Bool) (st ed fr la ch : Nat → Nat) : Prop := ∀ c, c < 32 → st c = 2 → ed c = e →
  (dn c = true → f < fr c ∨ (l = 1 ∧ fr c = f)) ∧ (dn c = false → fr c < f ∨ (fr c = f ∧ l ≤ la c)) ∧ (dn c = true → fr c = f → la c = 1 → ch c = N + 1)
theorem rd_LI0 (h : rd_LI N e f 0 dn st ed fr la ch) (ha : ∀ d, d < 32 → st d = 2 → ed d = e → (dn' d = true ↔ dn d = true ∨ (fr d = f ∧ la d = 0))) (hb : ∀ d, d < 32 → st d = 2 → ed d = e → (la' d = la d ∧ ch' d = ch d) ∨ (dn' d = true ∧ fr d = f ∧ ch' d = N + 1)) : rd_LI N e f 1 dn' st ed fr la' ch' := by
  intro c hc c1 c2
  obtain ⟨h1, h2, h3⟩ := h c hc c1 c2
  have a := ha c hc c1 c2
  have b := hb c hc c1 c2
  refine ⟨fun z => ?_, fun z => ?_, fun z w y => ?_⟩
  · rcases a.mp z with q | q
    · rcases h1 q with p | p <;> omega
    · exact Or.inr ⟨rfl, q.1⟩
  · have n1 : ¬ (dn c = true ∨ (fr c = f ∧ la c = 0)) := by intro q; rw [a.mpr q] at z; exact absurd z (by decide)
    have n2 : dn c = false := by
      rcases q : dn c with _ | _
      · rfl
      · exact absurd (Or.inl q) n1
    have n3 : la' c = la c := by
      rcases b with q | q
      · exact q.1
      · rw [q.1] at z; exact absurd z (by decide)
    rw [n3]
    rcases h2 n2 with q | q
    · exact Or.inl q
    · refine Or.inr ⟨q.1, ?_⟩
      rcases Nat.eq_zero_or_pos (la c) with p | p
      · exact absurd (Or.inr ⟨q.1, p⟩) n1
      · exact p
  · rcases b with q | q
    · rcases a.mp z with p | p
      · rcases h1 p with r | r <;> omega
      · rw [q.1] at y; omega
    · exact q.2.2
theorem rd_LI1 (h : rd_LI N e (f + 1) 1 dn st ed fr la ch) (hl : ∀ d, d < 32 → st d = 2 → ed d = e → la d ≤ 1) (ha : ∀ d, d < 32 → st d = 2 → ed d = e → (dn' d = true ↔ dn d = true ∨ (fr d = f + 1 ∧ la d = 1))) : rd_LI N e f 0 dn' st ed fr la' ch' := by
  intro c hc c1 c2
  obtain ⟨h1, h2, h3⟩ := h c hc c1 c2
  have a := ha c hc c1 c2
  have b := hl c hc c1 c2
  refine ⟨fun z => ?_, fun z => ?_, fun z w y => ?_⟩
  · rcases a.mp z with q | q
    · rcases h1 q with p | p <;> omega
    · omega
  · have n1 : ¬ (dn c = true ∨ (fr c = f + 1 ∧ la c = 1)) := by intro q; rw [a.mpr q] at z; exact absurd z (by decide)
    have n2 : dn c = false := by
      rcases q : dn c with _ | _
      · rfl
      · exact absurd (Or.inl q) n1
    rcases h2 n2 with q | q
    · omega
    · exact absurd (Or.inr ⟨q.1, by omega⟩) n1
  · rcases a.mp z with q | q
    · rcases h1 q with p | p <;> omega
    · omega
/-- the one at this place is X's foremost -/
theorem rd_LIf (h : rd_LI N e f l dn st ed fr la ch) (h1 : rd_S1 ps fr sp zs) (hp : ∀ d, d < 32 → st d = 2 → ed d = e → ps d = 2 * e + la d + 1) {c : Nat} (hc : c < 32) (c1 : st c = 2) (c2 : ed c = e) (c3 : fr c = f) (c4 : la c = l) (c5 : dn c = false) : rd_fo st ed fr ps dn e 32 = c + 1 := by
  rcases rd_foS (st := st) (ed := ed) (fr := fr) (ps := ps) (dn := dn) (e := e) 32 with ⟨k1, k2⟩ | ⟨a, k1, k2, k3, k4, k5, k6⟩
  · have := k2 c hc c1 c2
    rw [this] at c5; exact absurd c5 (by decide)
  · have x := k6 c hc c1 c2 c5
    have y := (h a k2 k3 k4).2.1 k5
    have p1 := hp c hc c1 c2
    have p2 := hp a k2 k3 k4
    rcases Nat.decEq a c with q | q
    · exfalso
      have := (h1 a c k2 hc q (by omega) (by omega)).1
      omega
    · rw [k1, q]
theorem rd_LIz (h : rd_LI N e 0 0 dn st ed fr la ch) (hf : ∀ d, d < 32 → st d = 2 → ed d = e → 1 ≤ fr d) : rd_fo st ed fr ps dn e 32 = 0 := by
  rcases rd_foS (st := st) (ed := ed) (fr := fr) (ps := ps) (dn := dn) (e := e) 32 with ⟨k1, _⟩ | ⟨a, k1, k2, k3, k4, k5, k6⟩
  · exact k1
  · have := (h a k2 k3 k4).2.1 k5
    have := hf a k2 k3 k4
    omega
end
end
section
/-! grants, changes and entries keep all that holds of the cars -/
theorem rd_qE {e l : Nat} (h : l ≤ 1) : rd_q (2 * e + l + 1) = e := by
  unfold rd_q
  omega
section
variable {ln fm tt le li rk we op mk wn pc ph pe st ty ed fr sp go tk en ch ps pg cf ct la gr cr ne nl oe ol fl zs : Nat → Nat} {tn N j c n s : Nat}
theorem rq_psE (hC : rq_C ln st ty ed fr sp go tk en ch ps pg cf ct la gr cr ne nl oe ol fl tn N) {c : Nat} (hc : c < 32) (h : st c = 2) : rd_q (ps c) = ed c ∧ 0 < ps c ∧ ps c ≤ 32 ∧ (ps c - 1) / 2 = ed c ∧ (ps c - 1) % 2 = la c ∧ la c ≤ 1 := by
  have a := hC.1 c
  have b := ((hC.2 c hc).2.1 h).1
  have l1 : la c ≤ 1 := by omega
  refine ⟨by rw [b]; exact rd_qE l1, by omega, by omega, by omega, by omega, l1⟩
theorem rq_pgS (hC : rq_C ln st ty ed fr sp go tk en ch ps pg cf ct la gr cr ne nl oe ol fl tn N) {d : Nat} (hd : d < 32) (h : 0 < pg d) : st d = 2 ∧ gr d = 1 ∧ pg d = 2 * ne d + nl d + 1 ∧ nl d < ln (ne d) ∧ ne d < 16 := by
  obtain ⟨_, _, b3, b4, _⟩ := hC.2 d hd
  have s2 : st d = 2 := by
    rcases Nat.decEq (st d) 2 with z | z
    · have := (b3 z).2.1; omega
    · exact z
  rcases b4 with q | q
  · omega
  · exact ⟨s2, q.1, q.2.1, q.2.2.1, q.2.2.2⟩
theorem rq_asE {l : Nat} (hn : 0 < n) (h2 : ln (n - 1) ≤ 2) (h0 : 0 < ln (n - 1)) {p : Nat} (hl : (p - 1) % 2 = l) : rq_as ln n p = 2 * (n - 1) + (if ln (n - 1) = 1 then 0 else l) + 1 ∧ rd_q (rq_as ln n p) = n - 1 ∧ (if ln (n - 1) = 1 then 0 else l) < ln (n - 1) := by
  have l1 : l ≤ 1 := by omega
  unfold rq_as
  rw [if_neg (by omega)]
  by_cases z : ln (n - 1) = 2
  · rw [if_pos z, if_neg (by omega), hl]
    exact ⟨rfl, rd_qE l1, by omega⟩
  · rw [if_neg z, if_pos (by omega)]
    exact ⟨rfl, rd_qE (l := 0) (by omega), by omega⟩
theorem rq_grantS (hE : rq_E ln fm tt le li rk we op mk) (hC : rq_C ln st ty ed fr sp go tk en ch ps pg cf ct la gr cr ne nl oe ol fl tn N) (hS : rd_Safe le fm tt ps pg fr sp go zs) (hc : c < 32)
    (hA : rq_ask ln fm tt le mk wn pc ph pe st ed fr go ps pg j c) (hs : s = rq_as ln (rq_nx wn ed go c) (ps c)) (hK : rq_cs le ed fr sp go ps zs s c) {A : Nat → Prop} (hM : rq_mh fm tt rk le ed fr ps pg cf ct zs A j s c) :
    rd_Safe le fm tt ps (ru_p pg c s) fr sp go zs := by
  obtain ⟨a1, a2, a3, a4, a5, a6, a7, a8, a9⟩ := hA
  obtain ⟨q1, q2, q3, q4, q5, q6⟩ := rq_psE hC hc a1
  obtain ⟨r1, r2, r3⟩ := rq_asE (p := ps c) a7 (hE.1 _).1 a8.1 q5
  have f1 : fm (rq_nx wn ed go c - 1) = tt (ed c) := by have := a8.2.1; rw [q4] at this; exact this
  refine rd_grant hS hc q2 a3 (by omega) (by rw [q1]; exact a4) (by rw [hs, r2, q1]; exact f1) (by
    rw [hs, r2, q1]
    intro z
    rw [z] at f1 a8
    exact (hE.2.1 _ a8.1).1 f1) rd_nrN (fun a ha => ?_) (fun n0 => ⟨_, rd_nrN, fun b hb => ?_⟩) (fun z => ?_) (fun d hd gd ht => ?_)
  · rcases a9 with z | z
    · omega
    · rw [ha] at z
      rw [hs]; exact z
  · rw [q1]; exact hK.2.2 n0 b hb
  · rw [q1]; exact hK.1 z
  · obtain ⟨d1, _⟩ := rq_pgS hC hd gd
    rw [(rq_psE hC hd d1).1, q1, a2] at ht
    have hb : rq_bd tt ed pg j d := ⟨by omega, ht⟩
    have := hM.1 d hd (Or.inr hb)
    unfold rq_hf rq_ht at this
    rw [if_pos hb, if_pos hb] at this
    exact this
theorem rq_grantC (hE : rq_E ln fm tt le li rk we op mk) (hC : rq_C ln st ty ed fr sp go tk en ch ps pg cf ct la gr cr ne nl oe ol fl tn N) (hc : c < 32) (h2 : st c = 2) (hn : 0 < n) (hn6 : n ≤ 16) (h0 : 0 < ln (n - 1)) :
    rq_C ln st ty ed fr sp go tk en ch ps (ru_p pg c (rq_as ln n (ps c))) cf ct la (ru_p gr c 1) cr (ru_p ne c (n - 1)) (ru_p nl c (if ln (n - 1) = 1 then 0 else la c)) oe ol fl tn N := by
  obtain ⟨q1, q2, q3, q4, q5, q6⟩ := rq_psE hC hc h2
  obtain ⟨r1, r2, r3⟩ := rq_asE (p := ps c) hn (hE.1 _).1 h0 q5
  refine ⟨hC.1, fun d hd => ?_⟩
  obtain ⟨b1, b2, b3, b4, b5⟩ := hC.2 d hd
  rcases Nat.decEq d c with z | z
  · rw [ru_n z, ru_n z, ru_n z, ru_n z]
    exact ⟨b1, b2, b3, b4, b5⟩
  · subst z
    rw [ru_s, ru_s, ru_s, ru_s]
    exact ⟨b1, b2, fun k => absurd h2 k, Or.inr ⟨rfl, r1, r3, by omega⟩, b5⟩
theorem rq_changeS (hC : rq_C ln st ty ed fr sp go tk en ch ps pg cf ct la gr cr ne nl oe ol fl tn N) (hS : rd_Safe le fm tt ps pg fr sp go zs) (hc : c < 32) (h2 : st c = 2) (hm : pg c = 0) (hr : rq_room fr sp ps pg zs (rq_ot (ps c)) c) : rd_Safe le fm tt (ru_p ps c (rq_ot (ps c))) pg fr sp go zs := by
  obtain ⟨q1, q2, q3, q4, q5, q6⟩ := rq_psE hC hc h2
  have b := ((hC.2 c hc).2.1 h2).1
  have o1 : rq_ot (ps c) = 2 * ed c + (1 - la c) + 1 := by rw [b]; exact rq_otE q6
  refine rd_change hS hc q2 hm (by omega) (by omega) (by rw [q1, o1]; exact rd_qE (by omega)) rd_nrN hr.1 rd_nuN hr.2.2 hr.2.1
theorem rq_changeC (hC : rq_C ln st ty ed fr sp go tk en ch ps pg cf ct la gr cr ne nl oe ol fl tn N) (hc : c < 32) (h2 : st c = 2) (hl : ln (ed c) = 2) : rq_C ln st ty ed fr sp go tk en (ru_p ch c (N + 1)) (ru_p ps c (rq_ot (ps c))) pg cf ct (ru_p la c (1 - la c)) gr cr ne nl oe ol fl tn N := by
  obtain ⟨q1, q2, q3, q4, q5, q6⟩ := rq_psE hC hc h2
  have b := ((hC.2 c hc).2.1 h2).1
  have o1 : rq_ot (ps c) = 2 * ed c + (1 - la c) + 1 := by rw [b]; exact rq_otE q6
  refine ⟨fun d => ?_, fun d hd => ?_⟩
  · have a := hC.1 d
    rcases Nat.decEq d c with z | z
    · rw [ru_n z, ru_n z]; exact a
    · subst z
      rw [ru_s, ru_s]
      omega
  · obtain ⟨b1, b2, b3, b4, b5⟩ := hC.2 d hd
    rcases Nat.decEq d c with z | z
    · rw [ru_n z, ru_n z]
      exact ⟨b1, b2, b3, b4, b5⟩
    · subst z
      rw [ru_s, ru_s]
      exact ⟨b1, fun _ => ⟨o1, by omega⟩, fun k => absurd h2 k, b4, b5⟩
theorem rq_enterS (hE : rq_E ln fm tt le li rk we op mk) (hS : rd_Safe le fm tt ps pg fr sp go zs) {e l : Nat} (hl : l ≤ 1) (he : 0 < ln e) (hc : c < 32) (c0 : ps c = 0) (hg : ∀ d, d < 32 → pg d ≠ 2 * e + l + 1) (hz : 3 ≤ zs c ∧ zs c ≤ 8)
    (hb : ∀ a, rd_nr ps fr (2 * e + l + 1) 0 32 = a + 1 → zs c + zs a + 1 ≤ fr a) : rd_Safe le fm tt (ru_p ps c (2 * e + l + 1)) pg (ru_p fr c (zs c)) (ru_p sp c 0) go zs :=
  rd_enter hS hc c0 (by omega) hg (by omega) (by rw [rd_qE hl]; have := (hE.2.1 e he).2.1; omega) rd_nrN hb
theorem rq_enterC (hC : rq_C ln st ty ed fr sp go tk en ch ps pg cf ct la gr cr ne nl oe ol fl tn N) (hc : c < 32) (h1 : st c = 1) {l z : Nat} (hl : l < ln (ed c)) (hl1 : l ≤ 1) (hz : z ≤ 8) : rq_C ln (ru_p st c 2) ty ed (ru_p fr c z) (ru_p sp c 0) go tk (ru_p en c N) ch (ru_p ps c (2 * ed c + l + 1)) pg cf ct (ru_p la c l) gr (ru_p cr c 0) ne nl oe ol fl tn N := by
  refine ⟨fun d => ?_, fun d hd => ?_⟩
  · have a := hC.1 d
    rcases Nat.decEq d c with z | z
    · rw [ru_n z, ru_n z, ru_n z, ru_n z, ru_n z]; exact a
    · subst z
      rw [ru_s, ru_s, ru_s, ru_s, ru_s]
      omega
  · obtain ⟨b1, b2, b3, b4, b5⟩ := hC.2 d hd
    rcases Nat.decEq d c with z | z
    · rw [ru_n z, ru_n z, ru_n z, ru_n z]
      exact ⟨b1, b2, b3, b4, b5⟩
    · subst z
      obtain ⟨c1, c2, c3⟩ := b3 (by omega)
      rw [ru_s, ru_s, ru_s, ru_s]
      refine ⟨fun _ => b1 (by omega), fun _ => ⟨rfl, hl⟩, fun k => absurd rfl k, b4, fun _ => Or.inl ⟨c3, rfl⟩⟩
end
end
section
/-! MOVES in pure numbers -/
/-- within the END's bound -/
def rq_sE (le ed fr go pg : Nat → Nat) (c x : Nat) : Prop := (pg c = 0 → go c ≠ ed c → rd_ok (le (ed c) - fr c) 0 x) ∧ (0 < pg c → go c ≠ rd_q (pg c) → rd_ok (le (ed c) + le (rd_q (pg c)) - fr c) 0 x)
/-- within the bound of the one AHEAD -/
def rq_sL (le ed fr sp ps pg zs : Nat → Nat) (c x : Nat) : Prop := (∀ a, rd_nr ps fr (ps c) (fr c) 32 = a + 1 → rd_ok (fr a - zs a - 1 - fr c) (sp a) x) ∧
  (rd_nr ps fr (ps c) (fr c) 32 = 0 → 0 < pg c → ∀ b, rd_nr ps fr (pg c) 0 32 = b + 1 → rd_ok (fr b + le (ed c) - zs b - 1 - fr c) (sp b) x)
def rq_wish (li tp ac ty ed sp : Nat → Nat) (c : Nat) : Nat := min (max (min (tp (ty c)) (li (ed c))) (sp c - 2)) (sp c + ac (ty c))
def rd_M1 (len ps pg fr go u ps' pg' fr' sp' : Nat → Nat) (c : Nat) : Prop :=
  (ps c = 0 → ps' c = 0 ∧ pg' c = 0) ∧
  (0 < ps c → fr c + u c ≤ len (rd_q (ps c)) → ps' c = ps c ∧ pg' c = pg c ∧ fr' c = fr c + u c ∧ sp' c = u c) ∧
  (0 < ps c → len (rd_q (ps c)) < fr c + u c → go c = rd_q (ps c) → ps' c = 0 ∧ pg' c = 0) ∧
  (0 < ps c → len (rd_q (ps c)) < fr c + u c → go c ≠ rd_q (ps c) → 0 < pg c ∧ ps' c = pg c ∧ pg' c = 0 ∧ fr' c + len (rd_q (ps c)) = fr c + u c ∧ sp' c = u c)
theorem rd_okB {p u q w s : Nat} (hq : p + s + 1 ≤ q) (h : u = 0 ∨ rd_ok (q - s - 1 - p) w u) : rd_Bd p u q w s := by
  unfold rd_ok at h
  unfold rd_Bd
  omega
section
variable {ln fm tt le li rk we op mk wn tp ac st ty ed fr sp go tk en ch ps pg cf ct la gr cr ne nl oe ol fl zs u : Nat → Nat} {tn N c v x : Nat}
/-- a new speed within the bounds keeps all that MOVES need -/
theorem rq_Uc (hC : rq_C ln st ty ed fr sp go tk en ch ps pg cf ct la gr cr ne nl oe ol fl tn N) (hS : rd_Safe le fm tt ps pg fr sp go zs) (hc : c < 32) (h2 : st c = 2) (hx : x = 0 ∨ (rq_sE le ed fr go pg c x ∧ rq_sL le ed fr sp ps pg zs c x)) :
    (∀ a, a < 32 → ps a = ps c → fr c < fr a → rd_Bd (fr c) x (fr a) (sp a) (zs a)) ∧
    (0 < pg c → ∀ b, b < 32 → ps b = pg c → rd_Bd (fr c) x (fr b + le (rd_q (ps c))) (sp b) (zs b)) ∧
    (pg c = 0 → go c ≠ rd_q (ps c) → x = 0 ∨ x + rd_D x + fr c ≤ le (rd_q (ps c))) ∧
    (0 < pg c → go c ≠ rd_q (pg c) → x = 0 ∨ x + rd_D x + fr c ≤ le (rd_q (ps c)) + le (rd_q (pg c))) := by
  obtain ⟨q1, q2, q3, q4, q5, q6⟩ := rq_psE hC hc h2
  have hB := ((hS.2.2.2.2.2 c hc).1 q2)
  have key := rd_Uc (u := x) hS hc q2 rd_nrN (fun a ha => ?_) (fun n0 g0 => ⟨_, rd_nrN, fun b hb => ?_⟩)
  · refine ⟨key.1, key.2, fun g0 gn => ?_, fun g0 gn => ?_⟩
    · rcases hx with z | z
      · exact Or.inl z
      · right
        have := z.1.1 g0 (by rw [← q1]; exact gn)
        unfold rd_ok at this
        rw [rd_D0] at this
        rw [q1] at hB ⊢
        omega
    · rcases hx with z | z
      · exact Or.inl z
      · right
        have := z.1.2 g0 gn
        unfold rd_ok at this
        rw [rd_D0] at this
        rw [q1] at hB ⊢
        omega
  · rcases rd_nrS (ps := ps) (fr := fr) (s := ps c) (p := fr c) 32 with ⟨k1, _⟩ | ⟨b, k1, k2, k3, k4, _⟩
    · omega
    · have e : b = a := by omega
      subst e
      have f := (hS.1 c b hc k2 (by intro z; subst z; omega) q2 k3).2 k4
      refine rd_okB f.1 ?_
      rcases hx with z | z
      · exact Or.inl z
      · exact Or.inr (z.2.1 b ha)
  · rcases rd_nrS (ps := ps) (fr := fr) (s := pg c) (p := 0) 32 with ⟨k1, _⟩ | ⟨a, k1, k2, k3, k4, _⟩
    · omega
    · have e : a = b := by omega
      subst e
      have f := hS.2.1 c a hc k2 g0 k3
      refine rd_okB f.1 ?_
      rcases hx with z | z
      · exact Or.inl z
      · right
        rw [q1]
        exact z.2.2 n0 g0 a hb
/-- falling by 2 is within the bounds -/
theorem rq_Ul (hC : rq_C ln st ty ed fr sp go tk en ch ps pg cf ct la gr cr ne nl oe ol fl tn N) (hS : rd_Safe le fm tt ps pg fr sp go zs) (hc : c < 32) (h2 : st c = 2) : sp c - 2 = 0 ∨ (rq_sE le ed fr go pg c (sp c - 2) ∧ rq_sL le ed fr sp ps pg zs c (sp c - 2)) := by
  obtain ⟨q1, q2, q3, q4, q5, q6⟩ := rq_psE hC hc h2
  rcases Nat.eq_zero_or_pos (sp c - 2) with z | z
  · exact Or.inl z
  · right
    have hB := ((hS.2.2.2.2.2 c hc).1 q2)
    have pos : ∀ {g w : Nat}, rd_D (sp c) ≤ g + rd_D w → rd_ok g w (sp c - 2) := by
      intro g w h
      rcases rd_ok2 (g := g) (w := w) h with k | k
      · omega
      · exact k
    have h3 := hS.2.2.1 c hc q2
    rw [q1] at h3 hB
    refine ⟨⟨fun g0 gn => pos ?_, fun g0 gn => pos ?_⟩, fun a ha => pos ?_, fun n0 g0 b hb => pos ?_⟩
    · have := h3.1 g0 gn; omega
    · have := h3.2 g0 gn; omega
    · rcases rd_nrS (ps := ps) (fr := fr) (s := ps c) (p := fr c) 32 with ⟨k1, _⟩ | ⟨b, k1, k2, k3, k4, _⟩
      · omega
      · have e : b = a := by omega
        subst e
        have f := (hS.1 c b hc k2 (by intro y; subst y; omega) q2 k3).2 k4
        unfold rd_Fo at f
        omega
    · rcases rd_nrS (ps := ps) (fr := fr) (s := pg c) (p := 0) 32 with ⟨k1, _⟩ | ⟨a, k1, k2, k3, k4, _⟩
      · omega
      · have e : a = b := by omega
        subst e
        have f := hS.2.1 c a hc k2 g0 k3
        rw [q1] at f
        unfold rd_Fo at f
        omega
theorem rq_sD {y : Nat} (h : y ≤ x) (h0 : 0 < y) (k : rq_sE le ed fr go pg c x ∧ rq_sL le ed fr sp ps pg zs c x) : rq_sE le ed fr go pg c y ∧ rq_sL le ed fr sp ps pg zs c y :=
  ⟨⟨fun a b => rd_okD _ _ h h0 (k.1.1 a b), fun a b => rd_okD _ _ h h0 (k.1.2 a b)⟩, fun a b => rd_okD _ _ h h0 (k.2.1 a b), fun a b d e => rd_okD _ _ h h0 (k.2.2 a b d e)⟩
theorem rq_wishL (hT : 1 ≤ ac (ty c)) : sp c - 2 ≤ rq_wish li tp ac ty ed sp c := by
  unfold rq_wish; omega
theorem rq_wishU (hT : tp (ty c) ≤ 12) (hs : sp c ≤ 12) : rq_wish li tp ac ty ed sp c ≤ 12 := by
  unfold rq_wish; omega
/-- the new speed: the greatest within the bounds, or one less, but never more than 2 below the old one -/
theorem rq_U1 (hC : rq_C ln st ty ed fr sp go tk en ch ps pg cf ct la gr cr ne nl oe ol fl tn N) (hS : rd_Safe le fm tt ps pg fr sp go zs) (hc : c < 32) (h2 : st c = 2) (hac : 1 ≤ ac (ty c)) (htp : tp (ty c) ≤ 12)
    (hg : rd_gr (fun y => rq_sE le ed fr go pg c y ∧ rq_sL le ed fr sp ps pg zs c y) (rq_wish li tp ac ty ed sp c) v) (hx : x = v ∨ (x + 1 = v ∧ sp c ≤ x + 2)) :
    x ≤ 12 ∧ sp c ≤ x + 2 ∧
    (∀ a, a < 32 → ps a = ps c → fr c < fr a → rd_Bd (fr c) x (fr a) (sp a) (zs a)) ∧
    (0 < pg c → ∀ b, b < 32 → ps b = pg c → rd_Bd (fr c) x (fr b + le (rd_q (ps c))) (sp b) (zs b)) ∧
    (pg c = 0 → go c ≠ rd_q (ps c) → x = 0 ∨ x + rd_D x + fr c ≤ le (rd_q (ps c))) ∧
    (0 < pg c → go c ≠ rd_q (pg c) → x = 0 ∨ x + rd_D x + fr c ≤ le (rd_q (ps c)) + le (rd_q (pg c))) := by
  have w1 : sp c - 2 ≤ rq_wish li tp ac ty ed sp c := rq_wishL hac
  have w2 : rq_wish li tp ac ty ed sp c ≤ 12 := rq_wishU htp (hC.1 c).2.2.2.2.2.1
  have l1 := rd_grL hg w1 (rq_Ul hC hS hc h2)
  have g1 := hg.1
  refine ⟨by omega, by omega, rq_Uc hC hS hc h2 ?_⟩
  rcases Nat.eq_zero_or_pos x with z | z
  · exact Or.inl z
  · right
    rcases hg.2.1 with k | k
    · omega
    · exact rq_sD (by omega) z k
theorem rq_mvA (hC : rq_C ln st ty ed fr sp go tk en ch ps pg cf ct la gr cr ne nl oe ol fl tn N) {y : Nat} (hx : x ≤ 400) (hy : y ≤ 12) : rq_C ln st ty ed (ru_p fr c x) (ru_p sp c y) go tk en ch ps pg cf ct la gr cr ne nl oe ol fl tn N := by
  refine ⟨fun d => ?_, hC.2⟩
  have a := hC.1 d
  rcases Nat.decEq d c with z | z
  · rw [ru_n z, ru_n z]; exact a
  · subst z
    rw [ru_s, ru_s]
    omega
theorem rq_mvB (hC : rq_C ln st ty ed fr sp go tk en ch ps pg cf ct la gr cr ne nl oe ol fl tn N) : rq_C ln (ru_p st c 0) ty ed fr sp go tk en ch (ru_p ps c 0) (ru_p pg c 0) (ru_p cf c 0) (ru_p ct c 0) la (ru_p gr c 0) cr ne nl oe ol fl tn N := by
  refine ⟨fun d => ?_, fun d hd => ?_⟩
  · have a := hC.1 d
    rcases Nat.decEq d c with z | z
    · rw [ru_n z]; exact a
    · subst z
      rw [ru_s]
      omega
  · obtain ⟨b1, b2, b3, b4, b5⟩ := hC.2 d hd
    rcases Nat.decEq d c with z | z
    · rw [ru_n z, ru_n z, ru_n z, ru_n z, ru_n z, ru_n z]
      exact ⟨b1, b2, b3, b4, b5⟩
    · subst z
      rw [ru_s, ru_s, ru_s, ru_s, ru_s, ru_s]
      exact ⟨fun k => absurd rfl k, fun k => by omega, fun _ => ⟨rfl, rfl, rfl⟩, Or.inl ⟨rfl, rfl⟩, fun k => by omega⟩
theorem rq_mvX (hC : rq_C ln st ty ed fr sp go tk en ch ps pg cf ct la gr cr ne nl oe ol fl tn N) (h2l : ∀ e, ln e ≤ 2) (hc : c < 32) (hg : 0 < pg c) (hx : x ≤ 400) : rq_C ln st ty (ru_p ed c (ne c)) (ru_p fr c x) sp go tk en ch (ru_p ps c (pg c)) (ru_p pg c 0) (ru_p cf c (ps c)) (ru_p ct c (pg c)) (ru_p la c (nl c)) (ru_p gr c 0) (ru_p cr c 1) ne nl (ru_p oe c (ed c)) (ru_p ol c (la c)) (ru_p fl c (nl c)) tn N := by
  obtain ⟨g1, g2, g3, g4, g5⟩ := rq_pgS hC hc hg
  have k2 := h2l (ne c)
  refine ⟨fun d => ?_, fun d hd => ?_⟩
  · have a := hC.1 d
    rcases Nat.decEq d c with z | z
    · rw [ru_n z, ru_n z, ru_n z]; exact a
    · subst z
      rw [ru_s, ru_s, ru_s]
      omega
  · obtain ⟨b1, b2, b3, b4, b5⟩ := hC.2 d hd
    rcases Nat.decEq d c with z | z
    · rw [ru_n z, ru_n z, ru_n z, ru_n z, ru_n z, ru_n z, ru_n z, ru_n z, ru_n z, ru_n z, ru_n z]
      exact ⟨b1, b2, b3, b4, b5⟩
    · subst z
      obtain ⟨q1, q2, q3, q4, q5, q6⟩ := rq_psE hC hd g1
      have p1 := (b2 g1).1
      have a := hC.1 d
      rw [ru_s, ru_s, ru_s, ru_s, ru_s, ru_s, ru_s, ru_s, ru_s, ru_s, ru_s]
      exact ⟨fun k => ⟨by omega, (b1 k).2⟩, fun _ => ⟨g3, g4⟩, fun k => absurd g1 k, Or.inl ⟨rfl, rfl⟩, fun _ => Or.inr ⟨rfl, p1, by omega, a.2.2.1, g3, by omega⟩⟩
end
end
section
/-! the ways once more: Y's sweeps over all goals, X's rounds to one goal -/
section
variable {K : Nat → Nat → Prop} {co : Nat → Nat} {g : Nat} {tg : Prop} {T T' δ δ' δ0 nx : Nat → Nat} {th : Nat → Prop}
theorem ry_SupE (hg : g < 16) (h : ∀ e, e < 16 → T e = T' e) (k : ry_Sup K co g tg T) : ry_Sup K co g tg T' := by
  obtain ⟨k1, k2, k3, k4⟩ := k
  refine ⟨fun e he => by rw [← h e he]; exact k1 e he, fun z => by rw [← h g hg]; exact k2 z, fun z => by rw [← h g hg]; exact k3 z, fun e he hn ht => ?_⟩
  rw [← h e he] at ht
  obtain ⟨f, f1, f2, f3, f4⟩ := k4 e he hn ht
  exact ⟨f, f1, f2, by rw [← h f f1]; exact f3, by rw [← h f f1, ← h e he]; exact f4⟩
theorem ry_AE (h : ∀ e, e < 16 → T e = T' e) (k : ry_A K co g T) : ry_A K co g T' := by
  intro e f he hf hn hK ht
  rw [← h f hf] at ht
  rw [← h e he, ← h f hf]
  exact k e f he hf hn hK ht
/-- no goal: no ways -/
theorem ry_SupN (hc : ∀ e f, K e f → 1 ≤ co f) (hn : ¬ tg) (k : ry_Sup K co g tg T) : ∀ t e, e < 16 → T e < t → ¬ T e < 1000000 := by
  intro t
  induction t with
  | zero => intro e _ h; omega
  | succ t ih =>
    intro e he ht hl
    rcases Nat.decEq e g with q | q
    · obtain ⟨f, f1, f2, f3, f4⟩ := k.2.2.2 e he q hl
      have := hc e f f2
      exact ih f f1 (by omega) f3
    · subst q
      have := k.2.2.1 hn
      omega
def ry_All (K : Nat → Nat → Prop) (co ln fa : Nat → Nat) : Prop := ∀ g, g < 16 → ry_Sup K co g (0 < ln g) (fun e => fa (16 * g + e))
theorem ry_AllU {ln fa : Nat → Nat} (h : ry_All K co ln fa) {e f : Nat} (hg : g < 16) (he : e < 16) (hf : f < 16) (hn : e ≠ g) (hK : K e f) (ht : fa (16 * g + f) < 1000000) (hl : fa (16 * g + f) + co f < fa (16 * g + e)) : ry_All K co ln (ru_p fa (16 * g + e) (fa (16 * g + f) + co f)) := by
  intro g' hg'
  rcases Nat.decEq g' g with q | q
  · refine ry_SupE hg' (fun i hi => ?_) (h g' hg')
    exact (ru_n (by omega)).symm
  · subst q
    refine ry_SupE hg' (fun i hi => ?_) (ry_SupU (h g' hg') he hf hn hK ht hl)
    rcases Nat.decEq i e with p | p
    · rw [ru_n p, ru_n (by omega)]
    · subst p; rw [ru_s, ru_s]
/-- what a sweep that shortened nothing has seen at k -/
def ry_At (K : Nat → Nat → Prop) (co fa : Nat → Nat) (k : Nat) : Prop := ∀ f, f < 16 → k % 16 ≠ k / 16 → K (k % 16) f → fa (16 * (k / 16) + f) < 1000000 → fa k ≤ fa (16 * (k / 16) + f) + co f
theorem ry_AllB {ln fa : Nat → Nat} (h : ry_All K co ln fa) (hA : ∀ k, k < 256 → ry_At K co fa k) : ∀ g, g < 16 → ry_Bel K co g (0 < ln g) (fun e => fa (16 * g + e)) := by
  intro g hg
  refine ⟨h g hg, fun e f he hf hn hK ht => ?_⟩
  have a := hA (16 * g + e) (by omega) f hf
  have e1 : (16 * g + e) % 16 = e := by omega
  have e2 : (16 * g + e) / 16 = g := by omega
  rw [e1, e2] at a
  exact a hn hK ht
theorem ry_FnE (h : ∀ e, e < 16 → δ e = δ' e) {e n b l : Nat} (hn : n ≤ 16) (k : ry_Fn K co δ e n b l) : ry_Fn K co δ' e n b l := by
  rcases k with ⟨k1, k2, k3⟩ | ⟨f, k1, k2, k3, k4, k5, k6, k7⟩
  · exact Or.inl ⟨k1, k2, fun f hf hK => by rw [← h f (by omega)]; exact k3 f hf hK⟩
  · have hf := h f (by omega)
    refine Or.inr ⟨f, k1, k2, k3, by rw [← hf]; exact k4, by rw [← hf]; exact k5, fun f' hf' hK hp => ?_, fun f' hf' hK hp => ?_⟩
    · have e1 := h f' (by omega)
      rw [← e1] at hp ⊢
      exact k6 f' hf' hK hp
    · have e1 := h f' (by omega)
      rw [← e1] at hp ⊢
      exact k7 f' hf' hK hp
/-- X's round r, at edge e; δ0 as the round began; b: better -/
def ry_RI (th : Nat → Prop) (K : Nat → Nat → Prop) (co : Nat → Nat) (g : Nat) (T : Nat → Nat) (r e : Nat) (δ δ0 nx : Nat → Nat) (b : Nat) : Prop :=
  ry_Low T δ ∧ ry_Set T δ r ∧ (∀ i, i < e → i < 16 → T i < 1000000 → ry_rk T (T i) 16 ≤ r + 1 → δ i = T i + 1) ∧ (∀ i, i < 16 → δ i ≤ 1 + 1211 * (16 * r + e)) ∧ δ g = 1 ∧ (∀ i, i < 16 → ¬ th i → δ i = 0 ∧ nx i = 0) ∧ nx g = 0 ∧
  (b = 0 → (∀ i, i < 16 → δ i = δ0 i) ∧ ∀ i, i < e → i < 16 → th i → i ≠ g → ry_Fn K co δ0 i 16 (nx i) (δ0 i)) ∧ (r = 15 → b = 0)
theorem ry_FnB (hco : ∀ e f, K e f → co f ≤ 1211) {e n b l B : Nat} (hB : ∀ i, i < n → δ i ≤ B) (k : ry_Fn K co δ e n b l) : l ≤ 1211 + B := by
  rcases k with ⟨k1, k2, k3⟩ | ⟨f, k1, k2, k3, k4, k5, k6, k7⟩
  · omega
  · have := hB f k2
    have := hco e f k3
    omega
theorem ry_RIs (hc : ∀ e f, K e f → 1 ≤ co f) (hco : ∀ e f, K e f → co f ≤ 1211) (hT : ry_Bel K co g tg T) {r e b bb l : Nat} (hr : r < 16) (he : e < 16) (hn : e ≠ g) (ht : th e)
    (h : ry_RI th K co g T r e δ δ0 nx b) (hF : ry_Fn K co δ e 16 bb l) : ry_RI th K co g T r (e + 1) (ru_p δ e l) δ0 (ru_p nx e bb) (if δ e = l then b else 1) := by
  obtain ⟨h1, h2, h3, h4, h5, h6, h7, h8, h9⟩ := h
  have lB := ry_FnB hco h4 hF
  have l6 : l ≤ 1000000 := by omega
  have set1 : T e < 1000000 → ry_rk T (T e) 16 ≤ r + 1 → l = T e + 1 := fun a b => ry_FnSet hc hT h1 h2 he hn hF l6 a b
  have low1 : 0 < l → T e < 1000000 ∧ T e + 1 ≤ l := ry_FnLow hT h1 he hn hF l6
  refine ⟨fun i hi hp => ?_, fun i hi ha hb => ?_, fun i hi hi6 ha hb => ?_, fun i hi => ?_, ?_, fun i hi ha => ?_, ?_, fun hb => ?_, fun hr5 => ?_⟩
  · rcases Nat.decEq i e with q | q
    · rw [ru_n q] at hp ⊢; exact h1 i hi hp
    · subst q; rw [ru_s] at hp ⊢; exact low1 hp
  · rcases Nat.decEq i e with q | q
    · rw [ru_n q]; exact h2 i hi ha hb
    · subst q; rw [ru_s]; exact set1 ha (by omega)
  · rcases Nat.decEq i e with q | q
    · rw [ru_n q]; exact h3 i (by omega) hi6 ha hb
    · subst q; rw [ru_s]; exact set1 ha hb
  · rcases Nat.decEq i e with q | q
    · rw [ru_n q]; have := h4 i hi; omega
    · subst q; rw [ru_s]; omega
  · rw [ru_n (Ne.symm hn)]; exact h5
  · rcases Nat.decEq i e with q | q
    · rw [ru_n q, ru_n q]; exact h6 i hi ha
    · subst q; exact absurd ht ha
  · rw [ru_n (Ne.symm hn)]; exact h7
  · have eq : δ e = l := by
      rcases Nat.decEq (δ e) l with q | q
      · rw [if_neg q] at hb; omega
      · exact q
    rw [if_pos eq] at hb
    obtain ⟨m1, m2⟩ := h8 hb
    refine ⟨fun i hi => ?_, fun i hi hi6 hti hni => ?_⟩
    · rcases Nat.decEq i e with q | q
      · rw [ru_n q]; exact m1 i hi
      · subst q; rw [ru_s, ← eq]; exact m1 i hi
    · rcases Nat.decEq i e with q | q
      · rw [ru_n q]; exact m2 i (by omega) hi6 hti hni
      · subst q
        rw [ru_s, ← m1 i hi6, eq]
        exact ry_FnE m1 (Nat.le_refl _) hF
  · have eq : δ e = l := by
      rcases Nat.lt_or_ge (T e) 1000000 with q | q
      · have rb := ry_rkB (T := T) (Nat.le_refl (T e)) he
        rw [h2 e he q (by omega), set1 q (by omega)]
      · rcases Nat.eq_zero_or_pos (δ e) with a | a
        · rcases Nat.eq_zero_or_pos l with c | c
          · omega
          · have := (low1 c).1; omega
        · have := (h1 e he a).1; omega
    rw [if_pos eq]; exact h9 hr5
theorem ry_RIk (hKt : ∀ e f, K e f → th e) (hT : ry_Bel K co g tg T) (htg : tg) {r e b : Nat} (hk : e = g ∨ ¬ th e) (h : ry_RI th K co g T r e δ δ0 nx b) : ry_RI th K co g T r (e + 1) δ δ0 nx b := by
  obtain ⟨h1, h2, h3, h4, h5, h6, h7, h8, h9⟩ := h
  refine ⟨h1, h2, fun i hi hi6 ha hb => ?_, fun i hi => by have := h4 i hi; omega, h5, h6, h7, fun hb => ⟨(h8 hb).1, fun i hi hi6 hti hni => ?_⟩, h9⟩
  · rcases Nat.decEq i e with q | q
    · exact h3 i (by omega) hi6 ha hb
    · subst q
      rcases Nat.decEq i g with p | p
      · rcases hk with hk | hk
        · exact absurd hk p
        · obtain ⟨f, f1, f2, f3, f4⟩ := ry_eq hT hi6 p ha
          exact absurd (hKt i f f2) hk
      · subst p
        rw [h5, hT.1.2.1 htg]
  · rcases Nat.decEq i e with q | q
    · exact (h8 hb).2 i (by omega) hi6 hti hni
    · subst q
      rcases hk with hk | hk
      · exact absurd hk hni
      · exact absurd hti hk
/-- the next round -/
theorem ry_RIn {r b : Nat} (hb : b ≠ 0) (hr : r < 16) (h : ry_RI th K co g T r 16 δ δ0 nx b) : r + 1 < 16 ∧ ry_RI th K co g T (r + 1) 0 δ δ nx 0 := by
  obtain ⟨h1, h2, h3, h4, h5, h6, h7, h8, h9⟩ := h
  have r5 : r + 1 < 16 := by
    rcases Nat.decEq r 15 with q | q
    · omega
    · exact absurd (h9 q) hb
  refine ⟨r5, h1, fun i hi ha hb => h3 i hi hi ha hb, fun i hi => absurd hi (Nat.not_lt_zero i), fun i hi => by have := h4 i hi; omega, h5, h6, h7, fun _ => ⟨fun i _ => rfl, fun i hi => absurd hi (Nat.not_lt_zero i)⟩, fun _ => rfl⟩
/-- the first round -/
theorem ry_RI0 (hc : ∀ e f, K e f → 1 ≤ co f) (hthg : th g) (hT : ry_Bel K co g tg T) (htg : tg) (hg : g < 16) (hd : ∀ i, i < 16 → δ i = if i = g then 1 else 0) (hx : ∀ i, i < 16 → nx i = 0) : ry_RI th K co g T 0 0 δ δ nx 0 := by
  have t0 := hT.1.2.1 htg
  refine ⟨fun i hi hp => ?_, fun i hi ha hb => ?_, fun i hi => absurd hi (Nat.not_lt_zero i), fun i hi => ?_, ?_, fun i hi ha => ⟨?_, hx i hi⟩, hx g hg, fun _ => ⟨fun i _ => rfl, fun i hi => absurd hi (Nat.not_lt_zero i)⟩, fun _ => rfl⟩
  · rw [hd i hi] at hp ⊢
    rcases Nat.decEq i g with q | q
    · rw [if_neg q] at hp; omega
    · subst q; rw [if_pos rfl]; omega
  · rcases Nat.decEq i g with q | q
    · obtain ⟨f, f1, f2, f3, f4⟩ := ry_eq hT hi q ha
      have c1 := hc i f f2
      have := ry_rkL (T := T) (t := T i) (f := f) (by omega) f1
      omega
    · subst q; rw [hd i hi, if_pos rfl]; omega
  · rw [hd i hi]; split <;> omega
  · rw [hd g hg, if_pos rfl]
  · have q : i ≠ g := by intro z; subst z; exact ha hthg
    rw [hd i hi, if_neg q]
/-- the last round -/
theorem ry_RIe (hKt : ∀ e f, K e f → th e) (hg : g < 16) (htg : tg) {r : Nat} (hr : r < 16) (h : ry_RI th K co g T r 16 δ δ0 nx 0) : ry_Bel K co g tg (ry_dec δ) ∧ ∀ e, e < 16 → e ≠ g → ry_Nx K co (ry_dec δ) e (nx e) := by
  obtain ⟨h1, h2, h3, h4, h5, h6, h7, h8, h9⟩ := h
  obtain ⟨m1, m2⟩ := h8 rfl
  refine ry_fix (fun e he => by have := h4 e he; omega) hg (fun _ => h5) (fun z => absurd htg z) (fun e he hn => ?_)
  rcases Classical.em (th e) with q | q
  · have := m2 e he he q hn
    rw [← m1 e he] at this
    exact ry_FnE (fun i hi => (m1 i hi).symm) (Nat.le_refl _) this
  · obtain ⟨a, b⟩ := h6 e he q
    rw [a, b]
    exact Or.inl ⟨rfl, rfl, fun f _ hK => absurd (hKt e f hK) q⟩
end
/-! what both sides answer of the ways -/
section
variable {ln fm tt le li rk we op mk wd wn fa : Nat → Nat} {e g : Nat}
theorem rq_hc (hE : rq_E ln fm tt le li rk we op mk) : ∀ e f, rq_K ln fm tt op mk e f → 1 ≤ rq_co le li we f := fun _ _ h => (rq_coB hE (rq_Kf h).1).1
theorem rq_hco (hE : rq_E ln fm tt le li rk we op mk) : ∀ e f, rq_K ln fm tt op mk e f → rq_co le li we f ≤ 1211 := fun _ _ h => (rq_coB hE (rq_Kf h).1).2
theorem rq_wnB (hW : rq_WX ln fm tt le li we op mk wd wn) (he : e < 16) (hg : g < 16) : wn (16 * e + g) ≤ 16 ∧ (0 < wn (16 * e + g) → e ≠ g ∧ rq_K ln fm tt op mk e (wn (16 * e + g) - 1)) := by
  obtain ⟨T, t1, t2, t3, t4, t5⟩ := hW g hg
  rcases Nat.decEq e g with q | q
  · rcases t5 e he q with ⟨a, b⟩ | ⟨f, a1, a2, a3, a4, a5, a6⟩
    · exact ⟨by omega, fun z => by omega⟩
    · refine ⟨by omega, fun _ => ⟨q, ?_⟩⟩
      rw [a1]; exact a3
  · have := t4 e he q
    exact ⟨by omega, fun z => by omega⟩
theorem rq_nextY (hE : rq_E ln fm tt le li rk we op mk) (hW : rq_WX ln fm tt le li we op mk wd wn) (hg : g < 16) {F : Nat → Nat} (hF : ry_Bel (rq_K ln fm tt op mk) (rq_co le li we) g (0 < ln g) F) (he : e < 16) (hn : e ≠ g) :
    (wn (16 * e + g) = 0 → ¬ F e < 1000000) ∧ (∀ f, wn (16 * e + g) = f + 1 → F e < 1000000 ∧ f < 16 ∧ rq_K ln fm tt op mk e f ∧ F f < 1000000 ∧ F f + rq_co le li we f = F e ∧ ∀ f', f' < f → rq_K ln fm tt op mk e f' → F f' < 1000000 → F f' + rq_co le li we f' ≠ F e) := by
  obtain ⟨T, t1, t2, t3, t4, t5⟩ := hW g hg
  have hc := rq_hc hE
  have u : ∀ i, i < 16 → T i = F i := fun i hi => ry_uni hc t1 hF hi
  have k := ry_NxE u he (t5 e he hn)
  refine ⟨fun z => ?_, fun f hf => ?_⟩
  · rcases k with ⟨_, b⟩ | ⟨f, a1, _⟩
    · intro y
      obtain ⟨f, f1, f2, f3, f4⟩ := ry_eq hF he hn y
      exact b f f1 f2 f3
    · omega
  · rcases k with ⟨a, _⟩ | ⟨f', a1, a2, a3, a4, a5, a6⟩
    · omega
    · have q : f' = f := by omega
      subst q
      have b1 := t2 f' a2 (by rw [u f' a2]; exact a4)
      rw [u f' a2] at b1
      have b2 := rq_hco hE e f' a3
      exact ⟨by omega, a2, a3, a4, a5, a6⟩
theorem rq_distY (hE : rq_E ln fm tt le li rk we op mk) (hW : rq_WX ln fm tt le li we op mk wd wn) (hg : g < 16) {F : Nat → Nat} (hF : ry_Bel (rq_K ln fm tt op mk) (rq_co le li we) g (0 < ln g) F) (he : e < 16) : wd (16 * e + g) = if F e < 1000000 then F e + 1 else 0 := by
  obtain ⟨T, t1, t2, t3, t4, t5⟩ := hW g hg
  rw [t3 e he, ry_uni (rq_hc hE) t1 hF he]
end
end
section
/-! codes as indices -/
theorem rn_ic {b M : Nat} (h0 : 0 < b) (h : b ≤ M) (hM : M < 2 ^ 31) : vp_in (rn_c b) M := by rw [rn_cs h0]; exact vp_in_nI (by omega) hM
theorem rn_iy {b M : Nat} (h0 : 0 < b) (h : b ≤ M) (hM : M < 2 ^ 31) : vp_in (rn_y b) M := by rw [rn_ys h0]; exact vp_in_nI (by omega) hM
theorem rn_Ac {f : Nat → Nat} {b : Nat} (h0 : 0 < b) (h : b < 2 ^ 31) : rn_A f (rn_c b).toNatClampNeg = nI (f (b - 1)) := by rw [rn_cs h0]; exact rn_rA (by omega)
theorem rn_Bc {f : Nat → Nat} {b : Nat} (h0 : 0 < b) (h : b < 2 ^ 31) : rn_B f (rn_c b).toNatClampNeg = rn_c (f (b - 1)) := by rw [rn_cs h0]; exact rn_rB (by omega)
theorem rn_Ay {f : Nat → Nat} {b : Nat} (h0 : 0 < b) (h : b < 2 ^ 31) : rn_A f (rn_y b).toNatClampNeg = nI (f (b - 1)) := by rw [rn_ys h0]; exact rn_rA (by omega)
theorem rn_iA {f : Nat → Nat} {i M : Nat} (hi : i < 2 ^ 31) (h : f i < M) (hM : M < 2 ^ 31) : vp_in (rn_A f (nI i).toNatClampNeg) M := by rw [rn_rA hi]; exact vp_in_nI h hM
theorem rn_AA {f g : Nat → Nat} {i : Nat} (hi : i < 2 ^ 31) (hg : g i < 2 ^ 31) : rn_A f (rn_A g (nI i).toNatClampNeg).toNatClampNeg = nI (f (g i)) := by rw [rn_rA hi, rn_rA hg]
theorem rn_TT {f : Nat → Nat} {i : Nat} (hi : i < 2 ^ 31) : rn_T f (nI i).toNatClampNeg = 0 ↔ ¬ 0 < f i := by
  rw [nI_clamp hi]
  show nI (if 0 < f i then 1 else 0) = 0 ↔ _
  by_cases h : 0 < f i
  · rw [if_pos h]
    exact ⟨fun z => absurd z (by decide), fun z => absurd h z⟩
  · rw [if_neg h]
    exact ⟨fun _ => h, fun _ => rfl⟩
theorem rb_n (P : Prop) : narrow .boolean (.int (rb_ P)) = .int (rb_ P) := by
  rcases Classical.em P with h | h
  · rw [rb_t h]; rfl
  · rw [rb_f h]; rfl
theorem ek_f {c d A B : Prop} (e : c ↔ d) (f : d → A) (g : ¬ d → B) : (c → A) ∧ (¬ c → B) := ⟨fun h => f (e.mp h), fun h => g (fun z => h (e.mpr z))⟩
/-- a branch on a truth -/
theorem rb_b {P A B : Prop} (f : ¬ P → A) (g : P → B) : (rb_ P = 0 → A) ∧ (¬ rb_ P = 0 → B) := ⟨fun h => f (rb_0.mp h), fun h => g (Classical.byContradiction (fun z => h (rb_f z)))⟩
theorem rb_p0 {post : Int32 → Prop} {P : Prop} (h : post (rb_ P)) (n : ¬ P) : post 0 := by rw [rb_f n] at h; exact h
theorem rb_q0 {post : Int32 → SY → Prop} {P : Prop} {u : SY} (h : post (rb_ P) u) (n : ¬ P) : post 0 u := by rw [rb_f n] at h; exact h
theorem rb_q1 {post : Int32 → SY → Prop} {P : Prop} {u : SY} (h : post (rb_ P) u) (n : P) : post 1 u := by rw [rb_t n] at h; exact h
theorem rd_FoZ {p v q w s : Nat} : (0 ≤ (q : Int) - s - 1 - p ∧ (rd_D v : Int) ≤ (q : Int) - s - 1 - p + rd_D w) ↔ rd_Fo p v q w s := by
  unfold rd_Fo
  omega
theorem rb_p1 {post : Int32 → Prop} {P : Prop} (h : post (rb_ P)) (n : P) : post 1 := by rw [rb_t n] at h; exact h
theorem rn_e {a b : Nat} {x y : Int32} (hx : x = nI a) (hy : y = nI b) (ha : a < 2147483648) (hb : b < 2147483648) : x = y ↔ a = b := by
  subst hx hy
  exact nI_eq ha hb
theorem rn_2 {a b : Nat} {x y : Int32} (hx : x = rn_c a) (hy : y = rn_c b) (ha : a < 2147483648) (hb : b < 2147483648) : x = y ↔ a = b := by
  subst hx hy
  exact rn_ce ha hb
theorem ri_l {a b : Int} {x y : Int32} (hx : x = ri_z a) (hy : y = ri_z b) (ha : -2147483648 ≤ a ∧ a < 2147483648) (hb : -2147483648 ≤ b ∧ b < 2147483648) : x ≤ y ↔ a ≤ b := by
  subst hx hy
  rw [Int32.le_iff_toInt_le, ri_toInt ha.1 ha.2, ri_toInt hb.1 hb.2]
theorem ri_t {a b : Int} {x y : Int32} (hx : x = ri_z a) (hy : y = ri_z b) (ha : -2147483648 ≤ a ∧ a < 2147483648) (hb : -2147483648 ≤ b ∧ b < 2147483648) : x < y ↔ a < b := by
  subst hx hy
  rw [Int32.lt_iff_toInt_lt, ri_toInt ha.1 ha.2, ri_toInt hb.1 hb.2]
theorem rn_D : ∀ v, v < 64 → (nI v / 2) * ((nI v - 1) / 2) = nI (rd_D v) := by decide +kernel
theorem rn_D6 : ∀ v, v < 64 → rd_D v < 2000 := by decide
/-! X: braking, safety -/
theorem rx_bs (post : Int32 → Prop) {v : Nat} (hv : v < 64) (h : post (nI (rd_D v))) : wpX_brakingSpan post (nI v) :=
  ⟨by decide, by decide, by rw [rn_D v hv]; exact h⟩
theorem rx_safe (post : Int32 → Prop) {v w : Nat} {g : Int} (hv : v < 64) (hw : w < 64) (hg : -100000 < g ∧ g < 100000) (h : post (rb_ (0 ≤ g ∧ (rd_D v : Int) ≤ g + rd_D w))) : wpX_isSafe post (nI v) (ri_z g) (nI w) := by
  have d1 := rn_D6 v hv
  have d2 := rn_D6 w hw
  refine ek_f (ri_t (a := g) (b := 0) rfl (ri_n 0) (by omega) (by omega)) (fun z => ?_) (fun z => ?_)
  · rw [rb_f (by omega)] at h; exact h
  · refine rx_bs _ hv (rx_bs _ hw ?_)
    refine ek_f (ri_t (a := g + rd_D w) (b := rd_D v) (by rw [ri_n, ri_add]) (ri_n _) (by omega) (by omega)) (fun y => ?_) (fun y => ?_)
    · rw [rb_f (by omega)] at h; exact h
    · rw [rb_t (by omega)] at h; exact h
/-! Y: stopping, safety -/
theorem ry_stop (post : Int32 → Prop) : ∀ v d n, v < n → v < 64 → post (nI (d + rd_D v)) → wY_stopping_6 post n (nI d) (ri_z ((v : Int) - 2))
  | 0, d, n + 1, _, _, h => by
    have e : nI (d + rd_D 0) = nI d := by rw [rd_D0, Nat.add_zero]
    rw [e] at h
    exact br_t ((ri_l (a := ((0 : Nat) : Int) - 2) (b := ((0 : Nat) : Int)) rfl (ri_n 0) (by omega) (by omega)).mpr (by omega)) h
  | 1, d, n + 1, _, _, h => by
    have e : nI (d + rd_D 1) = nI d := by rw [show rd_D 1 = 0 from rfl, Nat.add_zero]
    rw [e] at h
    exact br_t ((ri_l (a := ((1 : Nat) : Int) - 2) (b := ((0 : Nat) : Int)) rfl (ri_n 0) (by omega) (by omega)).mpr (by omega)) h
  | v + 2, d, n + 1, hn, hv, h => by
    have e : ((v + 2 : Nat) : Int) - 2 = v := by omega
    rw [e]
    rcases Nat.eq_zero_or_pos v with z | z
    · subst z
      have e : nI (d + rd_D (0 + 2)) = nI d := by rw [show rd_D (0 + 2) = 0 from rfl, Nat.add_zero]
      rw [e] at h
      exact br_t ((ri_l (a := ((0 : Nat) : Int)) (b := ((0 : Nat) : Int)) rfl (ri_n 0) (by omega) (by omega)).mpr (by omega)) h
    · refine br_f (fun k => ?_) (nm_r (e' := nI (d + v)) (by rw [← ri_n, nI_add]) (nm_r (e' := ri_z ((v : Int) - 2)) (by rw [show (-2 : Int32) = ri_z (-2) from ri_m2, ri_add]; rfl) ?_))
      · have := (ri_l (a := v) (b := 0) rfl (ri_n 0) (by omega) (by omega)).mp k
        omega
      · refine ry_stop post v (d + v) n (by omega) (by omega) ?_
        rw [Nat.add_assoc, ← rd_D2]; exact h
theorem ry_st (post : Int32 → Prop) {v : Nat} (hv : v < 64) (h : post (nI (rd_D v))) : wpY_stopping post (nI v) := by
  refine nm_r (e' := ri_z ((v : Int) - 2)) (by rw [ri_n, show (2 : Int32) = ri_z 2 from ri_n 2, ri_sub]) ⟨v + 1, ?_⟩
  have := ry_stop post v 0 (v + 1) (by omega) hv (by rw [Nat.zero_add]; exact h)
  exact this
theorem ry_safe (post : Int32 → Prop) {v w : Nat} {g : Int} (hv : v < 64) (hw : w < 64) (hg : -100000 < g ∧ g < 100000) (h : post (rb_ (0 ≤ g ∧ (rd_D v : Int) ≤ g + rd_D w))) : wpY_isSafe post (ri_z g) (nI v) (nI w) := by
  have d1 := rn_D6 v hv
  have d2 := rn_D6 w hw
  refine ry_st _ hv (ry_st _ hw ?_)
  refine ek_f (ri_t (a := g) (b := 0) rfl (ri_n 0) (by omega) (by omega)) (fun z => ?_) (fun z => ?_)
  · rw [rb_f (by omega)] at h; exact h
  · refine ek_f (ri_t (a := g + rd_D w) (b := rd_D v) (by rw [ri_n, ri_add]) (ri_n _) (by omega) (by omega)) (fun y => ?_) (fun y => ?_)
    · rw [rb_f (by omega)] at h; exact h
    · rw [rb_t (by omega)] at h; exact h
end
section
/-! the scans over the cars, X and Y -/
section
variable {ln fm tt le li rk we op ca mk wd wn fa pc ph pa pe pt se ls mo tp ac sz dw st ty ed fr sp go nz tk en ch nw ps pg cf ct la gr cr ne nl oe ol fl tl : Nat → Nat} {tn kn N : Nat} {th : Int32} {gp fs : Nat → Int32}
theorem rx_nb (post : Int32 → Prop) {s p : Nat} {x y : Int32} (hx : x = nI s) (hy : y = nI p) (hs : s < 1000) (hp : p < 2147483648) (hB : ∀ c, c < 32 → ps c ≤ 32) (hF : ∀ c, fr c ≤ 400) (h : post (rn_c ((rd_nr ps fr) (s + 1) p 32))) : wpX_nearestBeyond post (nI tn, rn_A ln, rn_A fm, rn_A tt, rn_A le, rn_A li, rn_A rk, rn_A we, rn_A op, rn_A ca, rn_A mk, rn_B wd, rn_B wn, rn_A pc, rn_A ph, rn_A pa, rn_A pe, rn_A pt, rn_A tp, rn_A ac, rn_A sz, rn_A dw, rn_A st, rn_A ty, rn_A ed, rn_B ps, rn_A fr, rn_A sp, rn_A go, rn_A nz, rn_B pg, rn_B cf, rn_B ct, rn_A tk, rn_A en, rn_B ch, rn_A nw, rn_A tl) x y := by
  subst hx hy
  refine loop_0 (fun n i (b : Nat) => wX_nearestBeyond_6 post (nI s) (nI p) (nI tn) (rn_A ln) (rn_A fm) (rn_A tt) (rn_A le) (rn_A li) (rn_A rk) (rn_A we) (rn_A op) (rn_A ca) (rn_A mk) (rn_B wd) (rn_B wn) (rn_A pc) (rn_A ph) (rn_A pa) (rn_A pe) (rn_A pt) (rn_A tp) (rn_A ac) (rn_A sz) (rn_A dw) (rn_A st) (rn_A ty) (rn_A ed) (rn_B ps) (rn_A fr) (rn_A sp) (rn_A go) (rn_A nz) (rn_B pg) (rn_B cf) (rn_B ct) (rn_A tk) (rn_A en) (rn_B ch) (rn_A nw) (rn_A tl) n (rn_c b) (nI i)) (fun i b => b = (rd_nr ps fr) (s + 1) p i) 32 0 rfl ?_ ?_
  · intro n b e; subst e
    exact br_t (by decide) h
  · intro n i b hi e ih; subst e
    have L := rd_nrL (ps := ps) (fr := fr) (s := s + 1) (p := p) i
    have F1 := hF i
    have F2 := hF ((rd_nr ps fr) (s + 1) p i - 1)
    have B1 := hB i hi
    refine pk_le 32 i (fun z => by omega) (fun _ => ⟨pk_in i 32 hi, ?_⟩)
    refine ek_f (rn_2 (rn_rB (by omega)) (b := s + 1) rfl (by omega) (by omega)) (fun e1 => ⟨pk_in i 32 hi, ?_⟩) (fun e1 => nm_r (nI_1 i) (ih _ (rd_nrQ (by omega)).symm))
    refine pk_le (fr i) p (fun z => nm_r (nI_1 i) (ih _ (rd_nrQ (by omega)).symm)) (fun z => ?_) (rn_rA (by omega))
    refine ek_f (rn_c2 (n := (rd_nr ps fr) (s + 1) p i) (by omega)) (fun e2 => nm_r (nI_1 i) (ih (i + 1) (rd_nrP (by omega)).symm)) (fun e2 => ⟨pk_in i 32 hi, rn_ic (by omega) (by omega) (by omega), ?_⟩)
    exact pk_le _ (fr i) (fun y => nm_r (nI_1 i) (ih _ (rd_nrQ (by omega)).symm)) (fun y => nm_r (nI_1 i) (ih (i + 1) (rd_nrP (by omega)).symm)) (rn_Ac (by omega) (by omega)) (rn_rA (by omega))
theorem rx_nu (post : Int32 → Prop) {s p : Nat} {x y : Int32} (hx : x = nI s) (hy : y = nI p) (hs : s < 1000) (hp : p < 2147483648) (hB : ∀ c, c < 32 → ps c ≤ 32) (hF : ∀ c, fr c ≤ 400) (h : post (rn_c ((rd_nu ps fr) (s + 1) p 32))) : wpX_nearestUpTo post (nI tn, rn_A ln, rn_A fm, rn_A tt, rn_A le, rn_A li, rn_A rk, rn_A we, rn_A op, rn_A ca, rn_A mk, rn_B wd, rn_B wn, rn_A pc, rn_A ph, rn_A pa, rn_A pe, rn_A pt, rn_A tp, rn_A ac, rn_A sz, rn_A dw, rn_A st, rn_A ty, rn_A ed, rn_B ps, rn_A fr, rn_A sp, rn_A go, rn_A nz, rn_B pg, rn_B cf, rn_B ct, rn_A tk, rn_A en, rn_B ch, rn_A nw, rn_A tl) x y := by
  subst hx hy
  refine loop_0 (fun n i (b : Nat) => wX_nearestUpTo_6 post (nI s) (nI p) (nI tn) (rn_A ln) (rn_A fm) (rn_A tt) (rn_A le) (rn_A li) (rn_A rk) (rn_A we) (rn_A op) (rn_A ca) (rn_A mk) (rn_B wd) (rn_B wn) (rn_A pc) (rn_A ph) (rn_A pa) (rn_A pe) (rn_A pt) (rn_A tp) (rn_A ac) (rn_A sz) (rn_A dw) (rn_A st) (rn_A ty) (rn_A ed) (rn_B ps) (rn_A fr) (rn_A sp) (rn_A go) (rn_A nz) (rn_B pg) (rn_B cf) (rn_B ct) (rn_A tk) (rn_A en) (rn_B ch) (rn_A nw) (rn_A tl) n (rn_c b) (nI i)) (fun i b => b = (rd_nu ps fr) (s + 1) p i) 32 0 rfl ?_ ?_
  · intro n b e; subst e
    exact br_t (by decide) h
  · intro n i b hi e ih; subst e
    have L := rd_nuL (ps := ps) (fr := fr) (s := s + 1) (p := p) i
    have F1 := hF i
    have F2 := hF ((rd_nu ps fr) (s + 1) p i - 1)
    have B1 := hB i hi
    refine pk_le 32 i (fun z => by omega) (fun _ => ⟨pk_in i 32 hi, ?_⟩)
    refine ek_f (rn_2 (rn_rB (by omega)) (b := s + 1) rfl (by omega) (by omega)) (fun e1 => ⟨pk_in i 32 hi, ?_⟩) (fun e1 => nm_r (nI_1 i) (ih _ (rd_nuQ (by omega)).symm))
    refine pk_lt p (fr i) (fun z => nm_r (nI_1 i) (ih _ (rd_nuQ (by omega)).symm)) (fun z => ?_) rfl (rn_rA (by omega))
    refine ek_f (rn_c2 (n := (rd_nu ps fr) (s + 1) p i) (by omega)) (fun e2 => nm_r (nI_1 i) (ih (i + 1) (rd_nuP (by omega)).symm)) (fun e2 => ⟨pk_in i 32 hi, rn_ic (by omega) (by omega) (by omega), ?_⟩)
    exact pk_le (fr i) _ (fun y => nm_r (nI_1 i) (ih _ (rd_nuQ (by omega)).symm)) (fun y => nm_r (nI_1 i) (ih (i + 1) (rd_nuP (by omega)).symm)) (rn_rA (by omega)) (rn_Ac (by omega) (by omega))
theorem rx_fw (post : Int32 → Prop) {e : Nat} {x : Int32} (hx : x = nI e) (he : e < 16) (hS : ∀ c, st c ≤ 2) (hE : ∀ c, ed c < 16) (hF : ∀ c, tk c ≤ 5000) (h : post (rn_c (rd_fw st ed tk e 32))) : wpX_firstWaiting post (nI tn, rn_A ln, rn_A fm, rn_A tt, rn_A le, rn_A li, rn_A rk, rn_A we, rn_A op, rn_A ca, rn_A mk, rn_B wd, rn_B wn, rn_A pc, rn_A ph, rn_A pa, rn_A pe, rn_A pt, rn_A tp, rn_A ac, rn_A sz, rn_A dw, rn_A st, rn_A ty, rn_A ed, rn_B ps, rn_A fr, rn_A sp, rn_A go, rn_A nz, rn_B pg, rn_B cf, rn_B ct, rn_A tk, rn_A en, rn_B ch, rn_A nw, rn_A tl) x := by
  subst hx
  refine loop_0 (fun n i (b : Nat) => wX_firstWaiting_5 post (nI e) (nI tn) (rn_A ln) (rn_A fm) (rn_A tt) (rn_A le) (rn_A li) (rn_A rk) (rn_A we) (rn_A op) (rn_A ca) (rn_A mk) (rn_B wd) (rn_B wn) (rn_A pc) (rn_A ph) (rn_A pa) (rn_A pe) (rn_A pt) (rn_A tp) (rn_A ac) (rn_A sz) (rn_A dw) (rn_A st) (rn_A ty) (rn_A ed) (rn_B ps) (rn_A fr) (rn_A sp) (rn_A go) (rn_A nz) (rn_B pg) (rn_B cf) (rn_B ct) (rn_A tk) (rn_A en) (rn_B ch) (rn_A nw) (rn_A tl) n (rn_c b) (nI i)) (fun i b => b = rd_fw st ed tk e i) 32 0 rfl ?_ ?_
  · intro n b e; subst e
    exact br_t (by decide) h
  · intro n i b hi e0 ih; subst e0
    have L := rd_fwL (st := st) (ed := ed) (tk := tk) (e := e) i
    have F1 := hF i
    have F2 := hF (rd_fw st ed tk e i - 1)
    have B1 := hS i
    have B2 := hE i
    refine pk_le 32 i (fun z => by omega) (fun _ => ⟨pk_in i 32 hi, ?_⟩)
    refine ek_f (rn_e (rn_rA (by omega)) (b := 1) rfl (by omega) (by omega)) (fun e1 => ⟨pk_in i 32 hi, ?_⟩) (fun e1 => nm_r (nI_1 i) (ih _ (rd_fwQ (by omega)).symm))
    refine ek_f (rn_e (rn_rA (by omega)) (b := e) rfl (by omega) (by omega)) (fun e2 => ?_) (fun e2 => nm_r (nI_1 i) (ih _ (rd_fwQ (by omega)).symm))
    refine ek_f (rn_c2 (n := rd_fw st ed tk e i) (by omega)) (fun e3 => nm_r (nI_1 i) (ih (i + 1) (rd_fwP (by omega)).symm)) (fun e3 => ⟨pk_in i 32 hi, rn_ic (by omega) (by omega) (by omega), ?_⟩)
    exact pk_le _ (tk i) (fun y => nm_r (nI_1 i) (ih _ (rd_fwQ (by omega)).symm)) (fun y => nm_r (nI_1 i) (ih (i + 1) (rd_fwP (by omega)).symm)) (rn_Ac (by omega) (by omega)) (rn_rA (by omega))
theorem rx_gt (post : Int32 → Prop) {s : Nat} {x : Int32} (hx : x = nI s) (hs : s < 1000) (hB : ∀ c, c < 32 → pg c ≤ 32) (h : post (rb_ (∃ c, c < 32 ∧ pg c = s + 1))) : wpX_isGranted post (nI tn, rn_A ln, rn_A fm, rn_A tt, rn_A le, rn_A li, rn_A rk, rn_A we, rn_A op, rn_A ca, rn_A mk, rn_B wd, rn_B wn, rn_A pc, rn_A ph, rn_A pa, rn_A pe, rn_A pt, rn_A tp, rn_A ac, rn_A sz, rn_A dw, rn_A st, rn_A ty, rn_A ed, rn_B ps, rn_A fr, rn_A sp, rn_A go, rn_A nz, rn_B pg, rn_B cf, rn_B ct, rn_A tk, rn_A en, rn_B ch, rn_A nw, rn_A tl) x := by
  subst hx
  refine loop_0 (fun n i (_ : Unit) => wX_isGranted_2 post (nI s) (nI tn) (rn_A ln) (rn_A fm) (rn_A tt) (rn_A le) (rn_A li) (rn_A rk) (rn_A we) (rn_A op) (rn_A ca) (rn_A mk) (rn_B wd) (rn_B wn) (rn_A pc) (rn_A ph) (rn_A pa) (rn_A pe) (rn_A pt) (rn_A tp) (rn_A ac) (rn_A sz) (rn_A dw) (rn_A st) (rn_A ty) (rn_A ed) (rn_B ps) (rn_A fr) (rn_A sp) (rn_A go) (rn_A nz) (rn_B pg) (rn_B cf) (rn_B ct) (rn_A tk) (rn_A en) (rn_B ch) (rn_A nw) (rn_A tl) n (nI i)) (fun i _ => ∀ c, c < i → ¬ pg c = s + 1) 32 () (fun c hc => absurd hc (Nat.not_lt_zero c)) ?_ ?_
  · intro n _ e
    rw [rb_f (fun ⟨c, hc, k⟩ => e c hc k)] at h
    exact br_t (by decide) h
  · intro n i _ hi e ih
    have B1 := hB i hi
    refine pk_le 32 i (fun z => by omega) (fun _ => ⟨pk_in i 32 hi, ?_⟩)
    refine ek_f (rn_2 (rn_rB (by omega)) (b := s + 1) rfl (by omega) (by omega)) (fun e1 => ?_) (fun e1 => nm_r (nI_1 i) (ih () (lt_s e e1)))
    exact rb_p1 h ⟨i, hi, e1⟩
theorem rx_any (post : Int32 → Prop) (hS : ∀ c, st c ≤ 2) (h : post (rb_ (∃ c, c < 32 ∧ st c ≠ 0))) : wpX_isAnyCarThere post (nI tn, rn_A ln, rn_A fm, rn_A tt, rn_A le, rn_A li, rn_A rk, rn_A we, rn_A op, rn_A ca, rn_A mk, rn_B wd, rn_B wn, rn_A pc, rn_A ph, rn_A pa, rn_A pe, rn_A pt, rn_A tp, rn_A ac, rn_A sz, rn_A dw, rn_A st, rn_A ty, rn_A ed, rn_B ps, rn_A fr, rn_A sp, rn_A go, rn_A nz, rn_B pg, rn_B cf, rn_B ct, rn_A tk, rn_A en, rn_B ch, rn_A nw, rn_A tl) := by
  refine loop_0 (fun n i (_ : Unit) => wX_isAnyCarThere_2 post (nI tn) (rn_A ln) (rn_A fm) (rn_A tt) (rn_A le) (rn_A li) (rn_A rk) (rn_A we) (rn_A op) (rn_A ca) (rn_A mk) (rn_B wd) (rn_B wn) (rn_A pc) (rn_A ph) (rn_A pa) (rn_A pe) (rn_A pt) (rn_A tp) (rn_A ac) (rn_A sz) (rn_A dw) (rn_A st) (rn_A ty) (rn_A ed) (rn_B ps) (rn_A fr) (rn_A sp) (rn_A go) (rn_A nz) (rn_B pg) (rn_B cf) (rn_B ct) (rn_A tk) (rn_A en) (rn_B ch) (rn_A nw) (rn_A tl) n (nI i)) (fun i _ => ∀ c, c < i → ¬ st c ≠ 0) 32 () (fun c hc => absurd hc (Nat.not_lt_zero c)) ?_ ?_
  · intro n _ e
    rw [rb_f (fun ⟨c, hc, k⟩ => e c hc k)] at h
    exact br_t (by decide) h
  · intro n i _ hi e ih
    have B1 := hS i
    refine pk_le 32 i (fun z => by omega) (fun _ => ⟨pk_in i 32 hi, ?_⟩)
    refine ek_f (rn_e (rn_rA (by omega)) (b := 0) rfl (by omega) (by omega)) (fun e1 => nm_r (nI_1 i) (ih () (lt_s e (fun k => k e1)))) (fun e1 => ?_)
    exact rb_p1 h ⟨i, hi, e1⟩
theorem rx_use (post : Int32 → Prop) {t : Nat} {x : Int32} (hx : x = nI t) (ht : t < 4) (hS : ∀ c, st c ≤ 2) (hT : ∀ c, ty c < 4) (h : post (rb_ (∃ c, c < 32 ∧ st c ≠ 0 ∧ ty c = t))) : wpX_isTypeInUse post (nI tn, rn_A ln, rn_A fm, rn_A tt, rn_A le, rn_A li, rn_A rk, rn_A we, rn_A op, rn_A ca, rn_A mk, rn_B wd, rn_B wn, rn_A pc, rn_A ph, rn_A pa, rn_A pe, rn_A pt, rn_A tp, rn_A ac, rn_A sz, rn_A dw, rn_A st, rn_A ty, rn_A ed, rn_B ps, rn_A fr, rn_A sp, rn_A go, rn_A nz, rn_B pg, rn_B cf, rn_B ct, rn_A tk, rn_A en, rn_B ch, rn_A nw, rn_A tl) x := by
  subst hx
  refine loop_0 (fun n i (_ : Unit) => wX_isTypeInUse_2 post (nI t) (nI tn) (rn_A ln) (rn_A fm) (rn_A tt) (rn_A le) (rn_A li) (rn_A rk) (rn_A we) (rn_A op) (rn_A ca) (rn_A mk) (rn_B wd) (rn_B wn) (rn_A pc) (rn_A ph) (rn_A pa) (rn_A pe) (rn_A pt) (rn_A tp) (rn_A ac) (rn_A sz) (rn_A dw) (rn_A st) (rn_A ty) (rn_A ed) (rn_B ps) (rn_A fr) (rn_A sp) (rn_A go) (rn_A nz) (rn_B pg) (rn_B cf) (rn_B ct) (rn_A tk) (rn_A en) (rn_B ch) (rn_A nw) (rn_A tl) n (nI i)) (fun i _ => ∀ c, c < i → ¬ (st c ≠ 0 ∧ ty c = t)) 32 () (fun c hc => absurd hc (Nat.not_lt_zero c)) ?_ ?_
  · intro n _ e
    rw [rb_f (fun ⟨c, hc, k⟩ => e c hc k)] at h
    exact br_t (by decide) h
  · intro n i _ hi e ih
    have B1 := hS i
    have B2 := hT i
    refine pk_le 32 i (fun z => by omega) (fun _ => ⟨pk_in i 32 hi, ?_⟩)
    refine ek_f (rn_e (rn_rA (by omega)) (b := 0) rfl (by omega) (by omega)) (fun e1 => nm_r (nI_1 i) (ih () (lt_s e (fun k => k.1 e1)))) (fun e1 => ⟨pk_in i 32 hi, ?_⟩)
    refine ek_f (rn_e (rn_rA (by omega)) (b := t) rfl (by omega) (by omega)) (fun e2 => ?_) (fun e2 => nm_r (nI_1 i) (ih () (lt_s e (fun k => e2 k.2))))
    exact rb_p1 h ⟨i, hi, e1, e2⟩
theorem rx_cb (post : Int32 → Prop) {s p : Nat} {x y : Int32} (hx : x = nI s) (hy : y = nI p) (hs : s < 1000) (hp : p < 2147483648) (hB : ∀ c, c < 32 → ps c ≤ 32) (hF : ∀ c, fr c ≤ 400) (h : post (nI (rd_cb ps fr (s + 1) p 32))) : wpX_countBeyond post (nI tn, rn_A ln, rn_A fm, rn_A tt, rn_A le, rn_A li, rn_A rk, rn_A we, rn_A op, rn_A ca, rn_A mk, rn_B wd, rn_B wn, rn_A pc, rn_A ph, rn_A pa, rn_A pe, rn_A pt, rn_A tp, rn_A ac, rn_A sz, rn_A dw, rn_A st, rn_A ty, rn_A ed, rn_B ps, rn_A fr, rn_A sp, rn_A go, rn_A nz, rn_B pg, rn_B cf, rn_B ct, rn_A tk, rn_A en, rn_B ch, rn_A nw, rn_A tl) x y := by
  subst hx hy
  refine loop_0 (fun n i (b : Nat) => wX_countBeyond_5 post (nI s) (nI p) (nI tn) (rn_A ln) (rn_A fm) (rn_A tt) (rn_A le) (rn_A li) (rn_A rk) (rn_A we) (rn_A op) (rn_A ca) (rn_A mk) (rn_B wd) (rn_B wn) (rn_A pc) (rn_A ph) (rn_A pa) (rn_A pe) (rn_A pt) (rn_A tp) (rn_A ac) (rn_A sz) (rn_A dw) (rn_A st) (rn_A ty) (rn_A ed) (rn_B ps) (rn_A fr) (rn_A sp) (rn_A go) (rn_A nz) (rn_B pg) (rn_B cf) (rn_B ct) (rn_A tk) (rn_A en) (rn_B ch) (rn_A nw) (rn_A tl) n (nI b) (nI i)) (fun i b => b = rd_cb ps fr (s + 1) p i) 32 0 rfl ?_ ?_
  · intro n b e; subst e
    exact br_t (by decide) h
  · intro n i b hi e ih; subst e
    have F1 := hF i
    have B1 := hB i hi
    refine pk_le 32 i (fun z => by omega) (fun _ => ⟨pk_in i 32 hi, ?_⟩)
    refine ek_f (rn_2 (rn_rB (by omega)) (b := s + 1) rfl (by omega) (by omega)) (fun e1 => ⟨pk_in i 32 hi, ?_⟩) (fun e1 => nm_r (nI_1 i) (ih _ (rd_cbQ (by omega)).symm))
    exact pk_le (fr i) p (fun z => nm_r (nI_1 i) (ih _ (rd_cbQ (by omega)).symm)) (fun z => nm_r (nI_1 _) (nm_r (nI_1 i) (ih _ (rd_cbP (by omega)).symm))) (rn_rA (by omega))
theorem rx_fo (post : Int32 → Prop) {e : Nat} {x y : Int32} (hy : y = nI e) (he : e < 16) (hS : ∀ c, st c ≤ 2) (hE : ∀ c, ed c < 16) (hF : ∀ c, fr c ≤ 400) (hB : ∀ c, c < 32 → ps c ≤ 32) (hP : ∀ c, c < 32 → st c = 2 → 0 < ps c) (h : post (rn_c (rd_fo st ed fr ps (bt x) e 32))) : wpX_foremostOf post (nI tn, rn_A ln, rn_A fm, rn_A tt, rn_A le, rn_A li, rn_A rk, rn_A we, rn_A op, rn_A ca, rn_A mk, rn_B wd, rn_B wn, rn_A pc, rn_A ph, rn_A pa, rn_A pe, rn_A pt, rn_A tp, rn_A ac, rn_A sz, rn_A dw, rn_A st, rn_A ty, rn_A ed, rn_B ps, rn_A fr, rn_A sp, rn_A go, rn_A nz, rn_B pg, rn_B cf, rn_B ct, rn_A tk, rn_A en, rn_B ch, rn_A nw, rn_A tl) y x := by
  subst hy
  refine loop_0 (fun n i (b : Nat) => wX_foremostOf_6 post (nI e) x (nI tn) (rn_A ln) (rn_A fm) (rn_A tt) (rn_A le) (rn_A li) (rn_A rk) (rn_A we) (rn_A op) (rn_A ca) (rn_A mk) (rn_B wd) (rn_B wn) (rn_A pc) (rn_A ph) (rn_A pa) (rn_A pe) (rn_A pt) (rn_A tp) (rn_A ac) (rn_A sz) (rn_A dw) (rn_A st) (rn_A ty) (rn_A ed) (rn_B ps) (rn_A fr) (rn_A sp) (rn_A go) (rn_A nz) (rn_B pg) (rn_B cf) (rn_B ct) (rn_A tk) (rn_A en) (rn_B ch) (rn_A nw) (rn_A tl) n (rn_c b) (nI i)) (fun i b => b = rd_fo st ed fr ps (bt x) e i) 32 0 rfl ?_ ?_
  · intro n b e; subst e
    exact br_t (by decide) h
  · intro n i b hi e0 ih; subst e0
    have L := rd_foL (st := st) (ed := ed) (fr := fr) (ps := ps) (dn := bt x) (e := e) i
    have F1 := hF i
    have F2 := hF (rd_fo st ed fr ps (bt x) e i - 1)
    have B1 := hS i
    have B2 := hE i
    have B3 := hB i hi
    refine pk_le 32 i (fun z => by omega) (fun _ => ⟨pk_in i 32 hi, ?_⟩)
    refine ek_f (rn_e (rn_rA (by omega)) (b := 2) rfl (by omega) (by omega)) (fun e1 => ⟨pk_in i 32 hi, ?_⟩) (fun e1 => nm_r (nI_1 i) (ih _ (rd_foQ (fun w => e1 w.1)).symm))
    refine ek_f (rn_e (rn_rA (by omega)) (b := e) rfl (by omega) (by omega)) (fun e2 => ?_) (fun e2 => nm_r (nI_1 i) (ih _ (rd_foQ (fun w => e2 w.2.1)).symm))
    refine ek_f (rd_st0 x hi) (fun e3 => ?_) (fun e3 => nm_r (nI_1 i) (ih _ (rd_foQ (fun w => e3 w.2.2.1)).symm))
    refine ek_f (rn_c2 (n := rd_fo st ed fr ps (bt x) e i) (by omega)) (fun e4 => nm_r (nI_1 i) (ih (i + 1) (rd_foP ⟨e1, e2, e3, Or.inl e4⟩).symm)) (fun e4 => ⟨pk_in i 32 hi, rn_ic (by omega) (by omega) (by omega), ?_⟩)
    have B4 := hB (rd_fo st ed fr ps (bt x) e i - 1) (by omega)
    have P1 := hP i hi e1
    have P2 : 0 < ps (rd_fo st ed fr ps (bt x) e i - 1) := by
      rcases rd_foS (st := st) (ed := ed) (fr := fr) (ps := ps) (dn := bt x) (e := e) i with ⟨k1, _⟩ | ⟨a, k1, k2, k3, _⟩
      · omega
      · rw [k1]; exact hP a (by omega) k3
    refine pk_lt _ (fr i) (fun y => nm_r (nI_1 i) (ih (i + 1) (rd_foP ⟨e1, e2, e3, Or.inr (Or.inl y)⟩).symm)) (fun y => ⟨pk_in i 32 hi, rn_ic (by omega) (by omega) (by omega), ?_⟩) (rn_Ac (by omega) (by omega)) (rn_rA (by omega))
    refine ek_f (rn_e (rn_rA (by omega)) (rn_Ac (by omega) (by omega)) (by omega) (by omega)) (fun e5 => ⟨pk_in i 32 hi, rn_ic (by omega) (by omega) (by omega), ?_⟩) (fun e5 => nm_r (nI_1 i) (ih _ (rd_foQ (fun w => by omega)).symm))
    exact pk_le (ps (rd_fo st ed fr ps (bt x) e i - 1) - 1) (ps i - 1) (fun q => nm_r (nI_1 i) (ih _ (rd_foQ (fun w => by omega)).symm)) (fun q => nm_r (nI_1 i) (ih (i + 1) (rd_foP ⟨e1, e2, e3, Or.inr (Or.inr ⟨e5, by omega⟩)⟩).symm)) (by rw [rn_Bc (by omega) (by omega), rn_cs P2]) (by rw [rn_rB (by omega), rn_cs P1])
/-! Y -/
theorem ry_on (post : Int32 → Prop) {c e l : Nat} {x y w : Int32} (hx : x = nI c) (hy : y = nI e) (hw : w = nI l) (hc : c < 32) (he : e < 1000) (hl : l < 1000) (hS : ∀ c, st c ≤ 2) (hE : ∀ c, ed c < 16) (hL : ∀ c, la c ≤ 1) (h : post (rb_ (st c = 2 ∧ ed c = e ∧ la c = l))) : wpY_isOn post (nI kn, nI tn, th, rn_T ln, rn_A op, rn_A fm, rn_A tt, rn_A le, rn_A ln, rn_A li, rn_A rk, rn_A we, rn_A ca, rn_A mk, rn_A fa, rn_A tp, rn_A ac, rn_A sz, rn_A dw, rn_A st, rn_A ty, rn_A ed, rn_A la, rn_A fr, rn_A sp, rn_A go, rn_A nz, rn_A tk, rn_C ch, rn_A en, rn_A nw, rn_A gr, rn_A cr, rn_A ne, rn_A nl, rn_A oe, rn_A ol, rn_A fl, rn_A pc, rn_A ph, rn_A pa, rn_A se, rn_A ls, rn_A mo, rn_A tl, gp, fs) x y w := by
  subst hx hy hw
  have B1 := hS c
  have B2 := hE c
  have B3 := hL c
  refine ⟨pk_in c 32 hc, ?_⟩
  refine ek_f (rn_e (rn_rA (by omega)) (b := 2) rfl (by omega) (by omega)) (fun e1 => ⟨pk_in c 32 hc, ?_⟩) (fun e1 => rb_p0 h (fun w => e1 w.1))
  refine ek_f (rn_e (rn_rA (by omega)) (b := e) rfl (by omega) (by omega)) (fun e2 => ⟨pk_in c 32 hc, ?_⟩) (fun e2 => rb_p0 h (fun w => e2 w.2.1))
  refine ek_f (rn_e (rn_rA (by omega)) (b := l) rfl (by omega) (by omega)) (fun e3 => rb_p1 h ⟨e1, e2, e3⟩) (fun e3 => rb_p0 h (fun w => e3 w.2.2))
/-- ON this lane, by the spot -/
def rq_on (st ed la ps : Nat → Nat) : Prop := (∀ c, st c ≤ 2 ∧ ed c < 16 ∧ la c ≤ 1) ∧ ∀ c, c < 32 → (st c = 2 → ps c = 2 * ed c + la c + 1) ∧ (st c ≠ 2 → ps c = 0)
theorem rq_onI (h : rq_on st ed la ps) {c e l : Nat} (hc : c < 32) (hl : l ≤ 1) : (st c = 2 ∧ ed c = e ∧ la c = l) ↔ ps c = 2 * e + l + 1 := by
  obtain ⟨h1, h2⟩ := h
  have a := h1 c
  obtain ⟨b1, b2⟩ := h2 c hc
  rcases Nat.decEq (st c) 2 with z | z
  · have := b2 z
    constructor <;> intro w <;> omega
  · have := b1 z
    constructor <;> intro w <;> omega
theorem ry_on' (post : Int32 → Prop) {c e l : Nat} (hc : c < 32) (he : e < 1000) (hl : l ≤ 1) (hO : rq_on st ed la ps) (h : post (rb_ (ps c = 2 * e + l + 1))) : wpY_isOn post (nI kn, nI tn, th, rn_T ln, rn_A op, rn_A fm, rn_A tt, rn_A le, rn_A ln, rn_A li, rn_A rk, rn_A we, rn_A ca, rn_A mk, rn_A fa, rn_A tp, rn_A ac, rn_A sz, rn_A dw, rn_A st, rn_A ty, rn_A ed, rn_A la, rn_A fr, rn_A sp, rn_A go, rn_A nz, rn_A tk, rn_C ch, rn_A en, rn_A nw, rn_A gr, rn_A cr, rn_A ne, rn_A nl, rn_A oe, rn_A ol, rn_A fl, rn_A pc, rn_A ph, rn_A pa, rn_A se, rn_A ls, rn_A mo, rn_A tl, gp, fs) (nI c) (nI e) (nI l) :=
  ry_on post rfl rfl rfl hc he (by omega) (fun c => (hO.1 c).1) (fun c => (hO.1 c).2.1) (fun c => (hO.1 c).2.2) (by rw [rb_e (rq_onI hO hc hl)]; exact h)
theorem ry_ab (post : Int32 → Prop) {e l p : Nat} {x y w : Int32} (hx : x = nI e) (hy : y = nI l) (hw : w = nI p) (he : e < 1000) (hl : l ≤ 1) (hp : p < 2147483648) (hO : rq_on st ed la ps) (hF : ∀ c, fr c ≤ 400) (h : post (rn_y ((rd_nr ps fr) (2 * e + l + 1) p 32))) : wpY_above post (nI kn, nI tn, th, rn_T ln, rn_A op, rn_A fm, rn_A tt, rn_A le, rn_A ln, rn_A li, rn_A rk, rn_A we, rn_A ca, rn_A mk, rn_A fa, rn_A tp, rn_A ac, rn_A sz, rn_A dw, rn_A st, rn_A ty, rn_A ed, rn_A la, rn_A fr, rn_A sp, rn_A go, rn_A nz, rn_A tk, rn_C ch, rn_A en, rn_A nw, rn_A gr, rn_A cr, rn_A ne, rn_A nl, rn_A oe, rn_A ol, rn_A fl, rn_A pc, rn_A ph, rn_A pa, rn_A se, rn_A ls, rn_A mo, rn_A tl, gp, fs) x y w := by
  subst hx hy hw
  refine loop_0 (fun n i (b : Nat) => wY_above_6 post (nI e) (nI l) (nI p) (nI kn) (nI tn) th (rn_T ln) (rn_A op) (rn_A fm) (rn_A tt) (rn_A le) (rn_A ln) (rn_A li) (rn_A rk) (rn_A we) (rn_A ca) (rn_A mk) (rn_A fa) (rn_A tp) (rn_A ac) (rn_A sz) (rn_A dw) (rn_A st) (rn_A ty) (rn_A ed) (rn_A la) (rn_A fr) (rn_A sp) (rn_A go) (rn_A nz) (rn_A tk) (rn_C ch) (rn_A en) (rn_A nw) (rn_A gr) (rn_A cr) (rn_A ne) (rn_A nl) (rn_A oe) (rn_A ol) (rn_A fl) (rn_A pc) (rn_A ph) (rn_A pa) (rn_A se) (rn_A ls) (rn_A mo) (rn_A tl) gp fs n (rn_y b) (nI i)) (fun i b => b = (rd_nr ps fr) (2 * e + l + 1) p i) 32 0 rfl ?_ ?_
  · intro n b e; subst e
    exact br_t (by decide) h
  · intro n i b hi e0 ih; subst e0
    have L := rd_nrL (ps := ps) (fr := fr) (s := 2 * e + l + 1) (p := p) i
    have F1 := hF i
    have F2 := hF ((rd_nr ps fr) (2 * e + l + 1) p i - 1)
    refine pk_le 32 i (fun z => by omega) (fun _ => ry_on' _ hi he hl hO ?_)
    refine rb_b (fun e1 => nm_r (nI_1 i) (ih _ (rd_nrQ (by omega)).symm)) (fun e1 => ⟨pk_in i 32 hi, ?_⟩)
    refine pk_le (fr i) p (fun z => nm_r (nI_1 i) (ih _ (rd_nrQ (by omega)).symm)) (fun z => ?_) (rn_rA (by omega))
    refine ek_f (rn_yn (n := (rd_nr ps fr) (2 * e + l + 1) p i) (by omega)) (fun e2 => nm_r (nI_1 i) (ih (i + 1) (rd_nrP (by omega)).symm)) (fun e2 => ⟨pk_in i 32 hi, rn_iy (by omega) (by omega) (by omega), ?_⟩)
    exact pk_le _ (fr i) (fun y => nm_r (nI_1 i) (ih _ (rd_nrQ (by omega)).symm)) (fun y => nm_r (nI_1 i) (ih (i + 1) (rd_nrP (by omega)).symm)) (rn_Ay (by omega) (by omega)) (rn_rA (by omega))
/-- x: none, or a car of another lane -/
theorem ry_nu (post : Int32 → Prop) {e l p : Nat} {x y w v : Int32} (hy : y = nI e) (hw : w = nI l) (hv : v = nI p) (he : e < 1000) (hl : l ≤ 1) (hp : p < 2147483648) (hO : rq_on st ed la ps) (hF : ∀ c, fr c ≤ 400) (hx : ∀ i, i < 32 → nI i = x → ps i ≠ 2 * e + l + 1) (h : post (rn_y ((rd_nu ps fr) (2 * e + l + 1) p 32))) : wpY_notAbove post (nI kn, nI tn, th, rn_T ln, rn_A op, rn_A fm, rn_A tt, rn_A le, rn_A ln, rn_A li, rn_A rk, rn_A we, rn_A ca, rn_A mk, rn_A fa, rn_A tp, rn_A ac, rn_A sz, rn_A dw, rn_A st, rn_A ty, rn_A ed, rn_A la, rn_A fr, rn_A sp, rn_A go, rn_A nz, rn_A tk, rn_C ch, rn_A en, rn_A nw, rn_A gr, rn_A cr, rn_A ne, rn_A nl, rn_A oe, rn_A ol, rn_A fl, rn_A pc, rn_A ph, rn_A pa, rn_A se, rn_A ls, rn_A mo, rn_A tl, gp, fs) y w v x := by
  subst hy hw hv
  refine loop_0 (fun n i (b : Nat) => wY_notAbove_6 post (nI e) (nI l) (nI p) x (nI kn) (nI tn) th (rn_T ln) (rn_A op) (rn_A fm) (rn_A tt) (rn_A le) (rn_A ln) (rn_A li) (rn_A rk) (rn_A we) (rn_A ca) (rn_A mk) (rn_A fa) (rn_A tp) (rn_A ac) (rn_A sz) (rn_A dw) (rn_A st) (rn_A ty) (rn_A ed) (rn_A la) (rn_A fr) (rn_A sp) (rn_A go) (rn_A nz) (rn_A tk) (rn_C ch) (rn_A en) (rn_A nw) (rn_A gr) (rn_A cr) (rn_A ne) (rn_A nl) (rn_A oe) (rn_A ol) (rn_A fl) (rn_A pc) (rn_A ph) (rn_A pa) (rn_A se) (rn_A ls) (rn_A mo) (rn_A tl) gp fs n (rn_y b) (nI i)) (fun i b => b = (rd_nu ps fr) (2 * e + l + 1) p i) 32 0 rfl ?_ ?_
  · intro n b e; subst e
    exact br_t (by decide) h
  · intro n i b hi e0 ih; subst e0
    have L := rd_nuL (ps := ps) (fr := fr) (s := 2 * e + l + 1) (p := p) i
    have F1 := hF i
    have F2 := hF ((rd_nu ps fr) (2 * e + l + 1) p i - 1)
    refine pk_le 32 i (fun z => by omega) (fun _ => br_c (fun e1 => nm_r (nI_1 i) (ih _ (rd_nuQ (fun w => hx i hi e1 w.1)).symm)) (fun _ => ry_on' _ hi he hl hO ?_))
    refine rb_b (fun e1 => nm_r (nI_1 i) (ih _ (rd_nuQ (by omega)).symm)) (fun e1 => ⟨pk_in i 32 hi, ?_⟩)
    refine pk_lt p (fr i) (fun z => nm_r (nI_1 i) (ih _ (rd_nuQ (by omega)).symm)) (fun z => ?_) rfl (rn_rA (by omega))
    refine ek_f (rn_yn (n := (rd_nu ps fr) (2 * e + l + 1) p i) (by omega)) (fun e2 => nm_r (nI_1 i) (ih (i + 1) (rd_nuP (by omega)).symm)) (fun e2 => ⟨pk_in i 32 hi, rn_iy (by omega) (by omega) (by omega), ?_⟩)
    exact pk_le (fr i) _ (fun y => nm_r (nI_1 i) (ih _ (rd_nuQ (by omega)).symm)) (fun y => nm_r (nI_1 i) (ih (i + 1) (rd_nuP (by omega)).symm)) (rn_rA (by omega)) (rn_Ay (by omega) (by omega))
theorem ry_fw (post : Int32 → Prop) {e : Nat} {x : Int32} (hx : x = nI e) (he : e < 16) (hS : ∀ c, st c ≤ 2) (hE : ∀ c, ed c < 16) (hF : ∀ c, tk c ≤ 5000) (h : post (rn_y (rd_fw st ed tk e 32))) : wpY_firstWaiting post (nI kn, nI tn, th, rn_T ln, rn_A op, rn_A fm, rn_A tt, rn_A le, rn_A ln, rn_A li, rn_A rk, rn_A we, rn_A ca, rn_A mk, rn_A fa, rn_A tp, rn_A ac, rn_A sz, rn_A dw, rn_A st, rn_A ty, rn_A ed, rn_A la, rn_A fr, rn_A sp, rn_A go, rn_A nz, rn_A tk, rn_C ch, rn_A en, rn_A nw, rn_A gr, rn_A cr, rn_A ne, rn_A nl, rn_A oe, rn_A ol, rn_A fl, rn_A pc, rn_A ph, rn_A pa, rn_A se, rn_A ls, rn_A mo, rn_A tl, gp, fs) x := by
  subst hx
  refine loop_0 (fun n i (b : Nat) => wY_firstWaiting_4 post (nI e) (nI kn) (nI tn) th (rn_T ln) (rn_A op) (rn_A fm) (rn_A tt) (rn_A le) (rn_A ln) (rn_A li) (rn_A rk) (rn_A we) (rn_A ca) (rn_A mk) (rn_A fa) (rn_A tp) (rn_A ac) (rn_A sz) (rn_A dw) (rn_A st) (rn_A ty) (rn_A ed) (rn_A la) (rn_A fr) (rn_A sp) (rn_A go) (rn_A nz) (rn_A tk) (rn_C ch) (rn_A en) (rn_A nw) (rn_A gr) (rn_A cr) (rn_A ne) (rn_A nl) (rn_A oe) (rn_A ol) (rn_A fl) (rn_A pc) (rn_A ph) (rn_A pa) (rn_A se) (rn_A ls) (rn_A mo) (rn_A tl) gp fs n (rn_y b) (nI i)) (fun i b => b = rd_fw st ed tk e i) 32 0 rfl ?_ ?_
  · intro n b e; subst e
    exact br_t (by decide) h
  · intro n i b hi e0 ih; subst e0
    have L := rd_fwL (st := st) (ed := ed) (tk := tk) (e := e) i
    have F1 := hF i
    have F2 := hF (rd_fw st ed tk e i - 1)
    have B1 := hS i
    have B2 := hE i
    refine pk_le 32 i (fun z => by omega) (fun _ => ⟨pk_in i 32 hi, ?_⟩)
    refine ek_f (rn_e (rn_rA (by omega)) (b := 1) rfl (by omega) (by omega)) (fun e1 => ⟨pk_in i 32 hi, ?_⟩) (fun e1 => nm_r (nI_1 i) (ih _ (rd_fwQ (by omega)).symm))
    refine ek_f (rn_e (rn_rA (by omega)) (b := e) rfl (by omega) (by omega)) (fun e2 => ?_) (fun e2 => nm_r (nI_1 i) (ih _ (rd_fwQ (by omega)).symm))
    refine ek_f (rn_yn (n := rd_fw st ed tk e i) (by omega)) (fun e3 => nm_r (nI_1 i) (ih (i + 1) (rd_fwP (by omega)).symm)) (fun e3 => ⟨pk_in i 32 hi, rn_iy (by omega) (by omega) (by omega), ?_⟩)
    exact pk_le _ (tk i) (fun y => nm_r (nI_1 i) (ih _ (rd_fwQ (by omega)).symm)) (fun y => nm_r (nI_1 i) (ih (i + 1) (rd_fwP (by omega)).symm)) (rn_Ay (by omega) (by omega)) (rn_rA (by omega))
theorem ry_no (post : Int32 → Prop) (hS : ∀ c, st c ≤ 2) (h : post (rb_ (¬ ∃ c, c < 32 ∧ st c ≠ 0))) : wpY_noCars post (nI kn, nI tn, th, rn_T ln, rn_A op, rn_A fm, rn_A tt, rn_A le, rn_A ln, rn_A li, rn_A rk, rn_A we, rn_A ca, rn_A mk, rn_A fa, rn_A tp, rn_A ac, rn_A sz, rn_A dw, rn_A st, rn_A ty, rn_A ed, rn_A la, rn_A fr, rn_A sp, rn_A go, rn_A nz, rn_A tk, rn_C ch, rn_A en, rn_A nw, rn_A gr, rn_A cr, rn_A ne, rn_A nl, rn_A oe, rn_A ol, rn_A fl, rn_A pc, rn_A ph, rn_A pa, rn_A se, rn_A ls, rn_A mo, rn_A tl, gp, fs) := by
  refine loop_0 (fun n i (_ : Unit) => wY_noCars_2 post (nI kn) (nI tn) th (rn_T ln) (rn_A op) (rn_A fm) (rn_A tt) (rn_A le) (rn_A ln) (rn_A li) (rn_A rk) (rn_A we) (rn_A ca) (rn_A mk) (rn_A fa) (rn_A tp) (rn_A ac) (rn_A sz) (rn_A dw) (rn_A st) (rn_A ty) (rn_A ed) (rn_A la) (rn_A fr) (rn_A sp) (rn_A go) (rn_A nz) (rn_A tk) (rn_C ch) (rn_A en) (rn_A nw) (rn_A gr) (rn_A cr) (rn_A ne) (rn_A nl) (rn_A oe) (rn_A ol) (rn_A fl) (rn_A pc) (rn_A ph) (rn_A pa) (rn_A se) (rn_A ls) (rn_A mo) (rn_A tl) gp fs n (nI i)) (fun i _ => ∀ c, c < i → ¬ st c ≠ 0) 32 () (fun c hc => absurd hc (Nat.not_lt_zero c)) ?_ ?_
  · intro n _ e
    rw [rb_t (fun ⟨c, hc, k⟩ => e c hc k)] at h
    exact br_t (by decide) h
  · intro n i _ hi e ih
    have B1 := hS i
    refine pk_le 32 i (fun z => by omega) (fun _ => ⟨pk_in i 32 hi, ?_⟩)
    refine ek_f (rn_e (rn_rA (by omega)) (b := 0) rfl (by omega) (by omega)) (fun e1 => nm_r (nI_1 i) (ih () (lt_s e (fun k => k e1)))) (fun e1 => ?_)
    exact rb_p0 h (fun k => k ⟨i, hi, e1⟩)
/-- the only one at this place, if there is one -/
theorem ry_ca (post : Int32 → Prop) {e l f k : Nat} {x y w : Int32} (hx : x = nI e) (hy : y = nI l) (hw : w = nI f) (he : e < 1000) (hl : l ≤ 1) (hf : f < 2147483648) (hO : rq_on st ed la ps) (hF : ∀ c, fr c ≤ 400) (hk : (k = 0 ∧ ∀ c, c < 32 → ps c = 2 * e + l + 1 → fr c ≠ f) ∨ (∃ c, k = c + 1 ∧ c < 32 ∧ ps c = 2 * e + l + 1 ∧ fr c = f ∧ ∀ d, d < 32 → ps d = 2 * e + l + 1 → fr d = f → d = c)) (h : post (rn_y k)) : wpY_carAt post (nI kn, nI tn, th, rn_T ln, rn_A op, rn_A fm, rn_A tt, rn_A le, rn_A ln, rn_A li, rn_A rk, rn_A we, rn_A ca, rn_A mk, rn_A fa, rn_A tp, rn_A ac, rn_A sz, rn_A dw, rn_A st, rn_A ty, rn_A ed, rn_A la, rn_A fr, rn_A sp, rn_A go, rn_A nz, rn_A tk, rn_C ch, rn_A en, rn_A nw, rn_A gr, rn_A cr, rn_A ne, rn_A nl, rn_A oe, rn_A ol, rn_A fl, rn_A pc, rn_A ph, rn_A pa, rn_A se, rn_A ls, rn_A mo, rn_A tl, gp, fs) x y w := by
  subst hx hy hw
  refine loop_0 (fun n i (_ : Unit) => wY_carAt_3 post (nI e) (nI l) (nI f) (nI kn) (nI tn) th (rn_T ln) (rn_A op) (rn_A fm) (rn_A tt) (rn_A le) (rn_A ln) (rn_A li) (rn_A rk) (rn_A we) (rn_A ca) (rn_A mk) (rn_A fa) (rn_A tp) (rn_A ac) (rn_A sz) (rn_A dw) (rn_A st) (rn_A ty) (rn_A ed) (rn_A la) (rn_A fr) (rn_A sp) (rn_A go) (rn_A nz) (rn_A tk) (rn_C ch) (rn_A en) (rn_A nw) (rn_A gr) (rn_A cr) (rn_A ne) (rn_A nl) (rn_A oe) (rn_A ol) (rn_A fl) (rn_A pc) (rn_A ph) (rn_A pa) (rn_A se) (rn_A ls) (rn_A mo) (rn_A tl) gp fs n (nI i)) (fun i _ => ∀ c, c < i → ¬ (ps c = 2 * e + l + 1 ∧ fr c = f)) 32 () (fun c hc => absurd hc (Nat.not_lt_zero c)) ?_ ?_
  · intro n _ e0
    rcases hk with ⟨k0, _⟩ | ⟨c, k0, k1, k2, k3, _⟩
    · subst k0
      exact br_t (by decide) h
    · exact absurd ⟨k2, k3⟩ (e0 c k1)
  · intro n i _ hi e0 ih
    have F1 := hF i
    refine pk_le 32 i (fun z => by omega) (fun _ => ry_on' _ hi he hl hO ?_)
    refine rb_b (fun e1 => nm_r (nI_1 i) (ih () (lt_s e0 (fun w => e1 w.1)))) (fun e1 => ⟨pk_in i 32 hi, ?_⟩)
    refine ek_f (rn_e (rn_rA (by omega)) (b := f) rfl (by omega) (by omega)) (fun e2 => ?_) (fun e2 => nm_r (nI_1 i) (ih () (lt_s e0 (fun w => e2 w.2))))
    rcases hk with ⟨k0, k1⟩ | ⟨c, k0, k1, k2, k3, k4⟩
    · exact absurd e2 (k1 i hi e1)
    · have := k4 i hi e1 e2
      subst this
      rw [k0] at h
      exact h
/-- GRANTED this lane, by the code -/
def rq_gd (st gr ne nl pg : Nat → Nat) : Prop := ∀ c, c < 32 → st c ≤ 2 ∧ ((pg c = 0 ∧ gr c = 0) ∨ (st c = 2 ∧ gr c = 1 ∧ pg c = 2 * ne c + nl c + 1 ∧ nl c ≤ 1 ∧ ne c < 16))
theorem ry_gt (post : Int32 → Prop) {e l : Nat} {x y : Int32} (hx : x = nI e) (hy : y = nI l) (he : e < 1000) (hl : l ≤ 1) (hG : rq_gd st gr ne nl pg) (h : post (rb_ (∃ c, c < 32 ∧ pg c = 2 * e + l + 1))) : wpY_isGrantedTo post (nI kn, nI tn, th, rn_T ln, rn_A op, rn_A fm, rn_A tt, rn_A le, rn_A ln, rn_A li, rn_A rk, rn_A we, rn_A ca, rn_A mk, rn_A fa, rn_A tp, rn_A ac, rn_A sz, rn_A dw, rn_A st, rn_A ty, rn_A ed, rn_A la, rn_A fr, rn_A sp, rn_A go, rn_A nz, rn_A tk, rn_C ch, rn_A en, rn_A nw, rn_A gr, rn_A cr, rn_A ne, rn_A nl, rn_A oe, rn_A ol, rn_A fl, rn_A pc, rn_A ph, rn_A pa, rn_A se, rn_A ls, rn_A mo, rn_A tl, gp, fs) x y := by
  subst hx hy
  refine loop_0 (fun n i (_ : Unit) => wY_isGrantedTo_2 post (nI e) (nI l) (nI kn) (nI tn) th (rn_T ln) (rn_A op) (rn_A fm) (rn_A tt) (rn_A le) (rn_A ln) (rn_A li) (rn_A rk) (rn_A we) (rn_A ca) (rn_A mk) (rn_A fa) (rn_A tp) (rn_A ac) (rn_A sz) (rn_A dw) (rn_A st) (rn_A ty) (rn_A ed) (rn_A la) (rn_A fr) (rn_A sp) (rn_A go) (rn_A nz) (rn_A tk) (rn_C ch) (rn_A en) (rn_A nw) (rn_A gr) (rn_A cr) (rn_A ne) (rn_A nl) (rn_A oe) (rn_A ol) (rn_A fl) (rn_A pc) (rn_A ph) (rn_A pa) (rn_A se) (rn_A ls) (rn_A mo) (rn_A tl) gp fs n (nI i)) (fun i _ => ∀ c, c < i → ¬ pg c = 2 * e + l + 1) 32 () (fun c hc => absurd hc (Nat.not_lt_zero c)) ?_ ?_
  · intro n _ e
    rw [rb_f (fun ⟨c, hc, k⟩ => e c hc k)] at h
    exact br_t (by decide) h
  · intro n i _ hi e0 ih
    obtain ⟨g0, g1⟩ := hG i hi
    refine pk_le 32 i (fun z => by omega) (fun _ => ⟨pk_in i 32 hi, ?_⟩)
    refine ek_f (rn_e (rn_rA (by omega)) (b := 2) rfl (by omega) (by omega)) (fun e1 => ⟨pk_in i 32 hi, ?_⟩) (fun e1 => nm_r (nI_1 i) (ih () (lt_s e0 (by omega))))
    refine ek_f (rn_e (rn_rA (by omega)) (b := 0) rfl (by omega) (by omega)) (fun e2 => nm_r (nI_1 i) (ih () (lt_s e0 (by omega)))) (fun e2 => ⟨pk_in i 32 hi, ?_⟩)
    refine ek_f (rn_e (rn_rA (by omega)) (b := e) rfl (by omega) (by omega)) (fun e3 => ⟨pk_in i 32 hi, ?_⟩) (fun e3 => nm_r (nI_1 i) (ih () (lt_s e0 (by omega))))
    refine ek_f (rn_e (rn_rA (by omega)) (b := l) rfl (by omega) (by omega)) (fun e4 => ?_) (fun e4 => nm_r (nI_1 i) (ih () (lt_s e0 (by omega))))
    exact rb_p1 h ⟨i, hi, by omega⟩
end
end
section
/-! all that holds, but for the safety of the cars: L; with it: I -/
def rq_L (ln fm tt le li rk we op mk wd wn pc ph pa pe pt se ls mo tp ac sz dw st ty ed fr sp go tk en ch ps pg cf ct la gr cr ne nl oe ol fl tl : Nat → Nat) (tn N : Nat) : Prop :=
  (rq_E ln fm tt le li rk we op mk) ∧ (rq_C ln st ty ed fr sp go tk en ch ps pg cf ct la gr cr ne nl oe ol fl tn N) ∧ (rq_P pc ph pa pe pt se ls mo N) ∧ (rq_Ty tp ac sz dw) ∧ (rq_WX ln fm tt le li we op mk wd wn) ∧ tl 0 = N ∧ N ≤ 20000 ∧ tn ≤ 5000
def rq_I (ln fm tt le li rk we op mk wd wn pc ph pa pe pt se ls mo tp ac sz dw st ty ed fr sp go tk en ch ps pg cf ct la gr cr ne nl oe ol fl tl : Nat → Nat) (tn N : Nat) : Prop :=
  (rq_L ln fm tt le li rk we op mk wd wn pc ph pa pe pt se ls mo tp ac sz dw st ty ed fr sp go tk en ch ps pg cf ct la gr cr ne nl oe ol fl tl tn N) ∧ (rd_Safe le fm tt ps pg fr sp go (fun x => sz (ty x)))
section
variable {ln fm tt le li rk we op ca mk wd wn fa pc ph pa pe pt se ls mo tp ac sz dw st ty ed fr sp go nz tk en ch nw ps pg cf ct la gr cr ne nl oe ol fl tl : Nat → Nat} {tn kn N : Nat} {th : Int32} {gp fs : Nat → Int32}
theorem rI_e (I : (rq_L ln fm tt le li rk we op mk wd wn pc ph pa pe pt se ls mo tp ac sz dw st ty ed fr sp go tk en ch ps pg cf ct la gr cr ne nl oe ol fl tl tn N)) (e : Nat) : ln e ≤ 2 ∧ fm e < 8 ∧ tt e < 8 ∧ le e ≤ 200 ∧ li e ≤ 12 ∧ rk e ≤ 3 ∧ we e ≤ 1000 ∧ op e ≤ 1 ∧ mk e < 65536 := I.1.1 e
theorem rI_t (I : (rq_L ln fm tt le li rk we op mk wd wn pc ph pa pe pt se ls mo tp ac sz dw st ty ed fr sp go tk en ch ps pg cf ct la gr cr ne nl oe ol fl tl tn N)) {e : Nat} (h : 0 < ln e) : fm e ≠ tt e ∧ 20 ≤ le e ∧ 1 ≤ li e := I.1.2.1 e h
theorem rI_c (I : (rq_L ln fm tt le li rk we op mk wd wn pc ph pa pe pt se ls mo tp ac sz dw st ty ed fr sp go tk en ch ps pg cf ct la gr cr ne nl oe ol fl tl tn N)) (c : Nat) : st c ≤ 2 ∧ ty c < 4 ∧ ed c < 16 ∧ go c < 16 ∧ fr c ≤ 400 ∧ sp c ≤ 12 ∧ tk c ≤ tn ∧ en c ≤ N ∧ ch c ≤ N + 1 ∧ la c ≤ 1 := I.2.1.1 c
theorem rI_y (I : (rq_L ln fm tt le li rk we op mk wd wn pc ph pa pe pt se ls mo tp ac sz dw st ty ed fr sp go tk en ch ps pg cf ct la gr cr ne nl oe ol fl tl tn N)) (c : Nat) : 1 ≤ tp (ty c) ∧ tp (ty c) ≤ 12 ∧ 1 ≤ ac (ty c) ∧ ac (ty c) ≤ 3 ∧ 3 ≤ sz (ty c) ∧ sz (ty c) ≤ 8 ∧ dw (ty c) ≤ 9 := I.2.2.2.1 _ (rI_c I c).2.1
/-- the codes of a car, within -/
theorem rI_p (I : (rq_L ln fm tt le li rk we op mk wd wn pc ph pa pe pt se ls mo tp ac sz dw st ty ed fr sp go tk en ch ps pg cf ct la gr cr ne nl oe ol fl tl tn N)) {c : Nat} (hc : c < 32) : ps c ≤ 32 ∧ pg c ≤ 32 ∧ cf c ≤ 32 ∧ (st c = 2 → ps c = 2 * ed c + la c + 1 ∧ la c < ln (ed c)) ∧ (st c ≠ 2 → ps c = 0 ∧ pg c = 0 ∧ cf c = 0) ∧ (st c ≠ 0 → 0 < ln (ed c) ∧ 0 < ln (go c)) := by
  have a := rI_c I c
  obtain ⟨b1, b2, b3, b4, b5⟩ := I.2.1.2 c hc
  refine ⟨?_, ?_, ?_, b2, b3, b1⟩
  · rcases Nat.decEq (st c) 2 with z | z
    · have := b3 z; omega
    · have := b2 z; omega
  · rcases b4 with q | q
    · omega
    · have := (rI_e I (ne c)).1
      omega
  · rcases Nat.decEq (st c) 2 with z | z
    · have := b3 z; omega
    · rcases b5 z with q | q <;> omega
theorem rI_on (I : (rq_L ln fm tt le li rk we op mk wd wn pc ph pa pe pt se ls mo tp ac sz dw st ty ed fr sp go tk en ch ps pg cf ct la gr cr ne nl oe ol fl tl tn N)) : (rq_on st ed la ps) := ⟨fun c => ⟨(rI_c I c).1, (rI_c I c).2.2.1, (rI_c I c).2.2.2.2.2.2.2.2.2⟩, fun c hc => ⟨fun h => ((rI_p I hc).2.2.2.1 h).1, fun h => ((rI_p I hc).2.2.2.2.1 h).1⟩⟩
theorem rI_gd (I : (rq_L ln fm tt le li rk we op mk wd wn pc ph pa pe pt se ls mo tp ac sz dw st ty ed fr sp go tk en ch ps pg cf ct la gr cr ne nl oe ol fl tl tn N)) : (rq_gd st gr ne nl pg) := by
  intro c hc
  have a := rI_c I c
  obtain ⟨b1, b2, b3, b4, b5⟩ := I.2.1.2 c hc
  refine ⟨a.1, ?_⟩
  rcases b4 with q | q
  · exact Or.inl q
  · right
    have := (rI_e I (ne c)).1
    have s2 : st c = 2 := by
      rcases Nat.decEq (st c) 2 with z | z
      · have := b3 z; omega
      · exact z
    exact ⟨s2, q.1, q.2.1, by omega, q.2.2.2⟩
theorem rI_ps (I : (rq_L ln fm tt le li rk we op mk wd wn pc ph pa pe pt se ls mo tp ac sz dw st ty ed fr sp go tk en ch ps pg cf ct la gr cr ne nl oe ol fl tl tn N)) : ∀ c, c < 32 → ps c ≤ 32 := fun c hc => (rI_p I hc).1
theorem rI_pg (I : (rq_L ln fm tt le li rk we op mk wd wn pc ph pa pe pt se ls mo tp ac sz dw st ty ed fr sp go tk en ch ps pg cf ct la gr cr ne nl oe ol fl tl tn N)) : ∀ c, c < 32 → pg c ≤ 32 := fun c hc => (rI_p I hc).2.1
theorem rI_fr (I : (rq_L ln fm tt le li rk we op mk wd wn pc ph pa pe pt se ls mo tp ac sz dw st ty ed fr sp go tk en ch ps pg cf ct la gr cr ne nl oe ol fl tl tn N)) : ∀ c, fr c ≤ 400 := fun c => (rI_c I c).2.2.2.2.1
theorem rI_st (I : (rq_L ln fm tt le li rk we op mk wd wn pc ph pa pe pt se ls mo tp ac sz dw st ty ed fr sp go tk en ch ps pg cf ct la gr cr ne nl oe ol fl tl tn N)) : ∀ c, st c ≤ 2 := fun c => (rI_c I c).1
theorem rI_ed (I : (rq_L ln fm tt le li rk we op mk wd wn pc ph pa pe pt se ls mo tp ac sz dw st ty ed fr sp go tk en ch ps pg cf ct la gr cr ne nl oe ol fl tl tn N)) : ∀ c, ed c < 16 := fun c => (rI_c I c).2.2.1
theorem rI_tk (I : (rq_L ln fm tt le li rk we op mk wd wn pc ph pa pe pt se ls mo tp ac sz dw st ty ed fr sp go tk en ch ps pg cf ct la gr cr ne nl oe ol fl tl tn N)) : ∀ c, tk c ≤ 5000 := fun c => by have := (rI_c I c).2.2.2.2.2.2.1; have := I.2.2.2.2.2.2.2; omega
/-- NEXT, by its code -/
theorem rI_nx (I : (rq_L ln fm tt le li rk we op mk wd wn pc ph pa pe pt se ls mo tp ac sz dw st ty ed fr sp go tk en ch ps pg cf ct la gr cr ne nl oe ol fl tl tn N)) (c : Nat) : (rq_nx wn ed go) c ≤ 16 ∧ (0 < (rq_nx wn ed go) c → ed c ≠ go c ∧ (rq_K ln fm tt op mk) (ed c) ((rq_nx wn ed go) c - 1)) := rq_wnB I.2.2.2.2.1 (rI_c I c).2.2.1 (rI_c I c).2.2.2.1
/-! X -/
theorem rx_ld (post : Int32 → Prop) {s n : Nat} {x y : Int32} (hx : x = nI s) (hy : y = rn_c n) (hE : (rq_E ln fm tt le li rk we op mk)) (hs : s < 32) (hn : n ≤ 16) (h : post (rb_ (0 < n ∧ (rq_ld ln fm tt mk) s (n - 1)))) : wpX_leads post (nI tn, rn_A ln, rn_A fm, rn_A tt, rn_A le, rn_A li, rn_A rk, rn_A we, rn_A op, rn_A ca, rn_A mk, rn_B wd, rn_B wn, rn_A pc, rn_A ph, rn_A pa, rn_A pe, rn_A pt, rn_A tp, rn_A ac, rn_A sz, rn_A dw, rn_A st, rn_A ty, rn_A ed, rn_B ps, rn_A fr, rn_A sp, rn_A go, rn_A nz, rn_B pg, rn_B cf, rn_B ct, rn_A tk, rn_A en, rn_B ch, rn_A nw, rn_A tl) x y := by
  subst hx hy
  rcases Nat.eq_zero_or_pos n with z | z
  · subst z
    rw [rb_f (by omega)] at h
    exact br_t (by decide) h
  · rw [rn_cs z]
    have A := hE.1 (n - 1)
    have B := hE.1 (s / 2)
    have C := hE.1 s
    refine br_f (nI_pos (by omega)) ⟨pk_in (n - 1) 16 (by omega), ?_⟩
    refine pk_le (ln (n - 1)) 0 (fun y => rb_p0 h (fun w => by have := w.2.1; omega)) (fun y => ⟨pk_in (n - 1) 16 (by omega), by decide, ?_⟩) (rn_rA (by omega))
    rw [show nI s / 2 = nI (s / 2) from pk_div (d := 2) (by omega) (by omega) (by omega)]
    refine ⟨pk_in (s / 2) 16 (by omega), ?_⟩
    refine ek_f (rn_e (rn_rA (by omega)) (rn_rA (by omega)) (by omega) (by omega)) (fun e3 => ⟨pk_in s 32 hs, ?_⟩) (fun e3 => rb_p0 h (fun w => e3 w.2.2.1))
    rw [rn_rA (by omega)]
    exact ek_f (rd_bt1 (by omega) (by omega)) (fun e4 => rb_p1 h ⟨z, y, e3, e4⟩) (fun e4 => rb_p0 h (fun w => e4 w.2.2.2))
theorem rx_el (post : Int32 → Prop) {e f : Nat} {x y : Int32} (hx : x = nI e) (hy : y = nI f) (hE : (rq_E ln fm tt le li rk we op mk)) (he : e < 16) (hf : f < 16) (h : post (rb_ ((rq_el ln fm tt mk) e f))) : wpX_edgeLeads post (nI tn, rn_A ln, rn_A fm, rn_A tt, rn_A le, rn_A li, rn_A rk, rn_A we, rn_A op, rn_A ca, rn_A mk, rn_B wd, rn_B wn, rn_A pc, rn_A ph, rn_A pa, rn_A pe, rn_A pt, rn_A tp, rn_A ac, rn_A sz, rn_A dw, rn_A st, rn_A ty, rn_A ed, rn_B ps, rn_A fr, rn_A sp, rn_A go, rn_A nz, rn_B pg, rn_B cf, rn_B ct, rn_A tk, rn_A en, rn_B ch, rn_A nw, rn_A tl) x y := by
  subst hx hy
  have A := hE.1 e
  unfold wpX_edgeLeads
  refine rx_ld _ (s := 2 * e) (n := f + 1) (pk_mul 2 e) rfl hE (by omega) (by omega) ?_
  refine rb_b (fun k1 => ⟨pk_in e 16 he, ?_⟩) (fun k1 => rb_p1 h (Or.inl k1.2))
  have n1 : ¬ (rq_ld ln fm tt mk) (2 * e) f := fun w => k1 ⟨by omega, w⟩
  refine ek_f (rn_e (rn_rA (by omega)) (b := 2) rfl (by omega) (by omega)) (fun e2 => ?_) (fun e2 => rb_p0 h (fun w => w.elim n1 (fun v => e2 v.1)))
  refine rx_ld _ (s := 2 * e + 1) (n := f + 1) (by rw [show (2 : Int32) * nI e = nI (2 * e) from pk_mul 2 e]; exact nI_1 _) rfl hE (by omega) (by omega) ?_
  exact rb_b (fun k2 => rb_p0 h (fun w => w.elim n1 (fun v => k2 ⟨by omega, v.2⟩))) (fun k2 => rb_p1 h (Or.inr ⟨e2, k2.2⟩))
theorem rx_co (post : Int32 → Prop) {e : Nat} {x : Int32} (hx : x = nI e) (hE : (rq_E ln fm tt le li rk we op mk)) (he : e < 16) (ht : 0 < ln e) (h : post (nI ((rq_co le li we) e))) : wpX_costOf post (nI tn, rn_A ln, rn_A fm, rn_A tt, rn_A le, rn_A li, rn_A rk, rn_A we, rn_A op, rn_A ca, rn_A mk, rn_B wd, rn_B wn, rn_A pc, rn_A ph, rn_A pa, rn_A pe, rn_A pt, rn_A tp, rn_A ac, rn_A sz, rn_A dw, rn_A st, rn_A ty, rn_A ed, rn_B ps, rn_A fr, rn_A sp, rn_A go, rn_A nz, rn_B pg, rn_B cf, rn_B ct, rn_A tk, rn_A en, rn_B ch, rn_A nw, rn_A tl) x := by
  subst hx
  have A := hE.1 e
  have B := hE.2.1 e ht
  refine ⟨pk_in e 16 he, nm_r (rn_rA (by omega)) ?_⟩
  refine pk_le 1 (li e) (fun _ => ⟨pk_in e 16 he, nI_ne0 (by omega) (by omega), pk_in e 16 he, ?_⟩) (fun z => by omega)
  rw [rn_rA (by omega), rn_rA (by omega), nI_add, show (1 : Int32) = nI 1 from rfl, pk_sub (by omega), pk_div (by omega) (by omega) (by omega), nI_add]
  exact h
/-- the number of an edge that is there -/
def rq_th (ln : Nat → Nat) (x : Int32) : Prop := ∃ e, e < 16 ∧ x = nI e ∧ 0 < ln e
def rq_la (ln : Nat → Nat) (x y : Int32) : Prop := ∃ e l, e < 16 ∧ x = nI e ∧ y = nI l ∧ l < ln e
theorem rn_16 {x : Int32} {M : Nat} (hM : M < 2147483648) (k0 : ¬ x < 0) (k1 : ¬ nI M ≤ x) : ∃ e, e < M ∧ x = nI e := by
  obtain ⟨e, he, rfl⟩ := nI_of k0
  refine ⟨e, ?_, rfl⟩
  rcases Nat.lt_or_ge e M with z | z
  · exact z
  · exact absurd (nI_le z he) k1
theorem rn_o {x : Int32} {e M : Nat} (hx : x = nI e) (he : e < M) (hM : M < 2147483648) : ¬ x < 0 ∧ ¬ nI M ≤ x := by
  subst hx
  exact ⟨nI_pos (by omega), nI_ge he hM⟩
theorem rx_ie (post : Int32 → Prop) (x : Int32) (hE : ∀ e, ln e ≤ 2) (h : post (rb_ (rq_th ln x))) : wpX_isEdge post (nI tn, rn_A ln, rn_A fm, rn_A tt, rn_A le, rn_A li, rn_A rk, rn_A we, rn_A op, rn_A ca, rn_A mk, rn_B wd, rn_B wn, rn_A pc, rn_A ph, rn_A pa, rn_A pe, rn_A pt, rn_A tp, rn_A ac, rn_A sz, rn_A dw, rn_A st, rn_A ty, rn_A ed, rn_B ps, rn_A fr, rn_A sp, rn_A go, rn_A nz, rn_B pg, rn_B cf, rn_B ct, rn_A tk, rn_A en, rn_B ch, rn_A nw, rn_A tl) x := by
  refine br_c (fun k => ?_) (fun k0 => br_c (fun k => ?_) (fun k1 => ?_))
  · exact rb_p0 h (fun ⟨e, e1, e2, _⟩ => (rn_o e2 e1 (by omega)).1 k)
  · exact rb_p0 h (fun ⟨e, e1, e2, _⟩ => (rn_o e2 e1 (by omega)).2 k)
  · obtain ⟨e, e6, rfl⟩ := rn_16 (M := 16) (by omega) k0 k1
    have A := hE e
    refine ⟨pk_in e 16 e6, pk_le (ln e) 0 (fun z => ?_) (fun z => ?_) (rn_rA (by omega))⟩
    · exact rb_p0 h (fun ⟨d, d1, d2, d3⟩ => by rw [nI_eq (by omega) (by omega)] at d2; subst d2; omega)
    · exact rb_p1 h ⟨e, e6, rfl, z⟩
theorem rx_il (post : Int32 → Prop) (x y : Int32) (hE : ∀ e, ln e ≤ 2) (h : post (rb_ (rq_la ln x y))) : wpX_isLane post (nI tn, rn_A ln, rn_A fm, rn_A tt, rn_A le, rn_A li, rn_A rk, rn_A we, rn_A op, rn_A ca, rn_A mk, rn_B wd, rn_B wn, rn_A pc, rn_A ph, rn_A pa, rn_A pe, rn_A pt, rn_A tp, rn_A ac, rn_A sz, rn_A dw, rn_A st, rn_A ty, rn_A ed, rn_B ps, rn_A fr, rn_A sp, rn_A go, rn_A nz, rn_B pg, rn_B cf, rn_B ct, rn_A tk, rn_A en, rn_B ch, rn_A nw, rn_A tl) x y := by
  refine br_c (fun k => ?_) (fun k0 => br_c (fun k => ?_) (fun k1 => br_c (fun k => ?_) (fun k2 => ?_)))
  · exact rb_p0 h (fun ⟨e, l, e1, e2, _⟩ => (rn_o e2 e1 (by omega)).1 k)
  · exact rb_p0 h (fun ⟨e, l, e1, e2, _⟩ => (rn_o e2 e1 (by omega)).2 k)
  · exact rb_p0 h (fun ⟨e, l, e1, e2, e3, e4⟩ => by have := hE e; exact (rn_o e3 e4 (by omega)).1 k)
  · obtain ⟨e, e6, rfl⟩ := rn_16 (M := 16) (by omega) k0 k1
    obtain ⟨l, hl, rfl⟩ := nI_of k2
    have A := hE e
    refine ⟨pk_in e 16 e6, pk_le (ln e) l (fun z => ?_) (fun z => ?_) (rn_rA (by omega))⟩
    · exact rb_p0 h (fun ⟨d, l', d1, d2, d3, d4⟩ => by
        rw [nI_eq (by omega) (by omega)] at d2
        subst d2
        rw [nI_eq (by omega) (by omega)] at d3
        omega)
    · exact rb_p1 h ⟨e, l, e6, rfl, rfl, z⟩
theorem rx_nx (post : Int32 → Prop) {c : Nat} {x : Int32} (hx : x = nI c) (hc : c < 32) (hE : ∀ c, ed c < 16) (hG : ∀ c, go c < 16) (h : post (rn_c ((rq_nx wn ed go) c))) : wpX_nextOf post (nI tn, rn_A ln, rn_A fm, rn_A tt, rn_A le, rn_A li, rn_A rk, rn_A we, rn_A op, rn_A ca, rn_A mk, rn_B wd, rn_B wn, rn_A pc, rn_A ph, rn_A pa, rn_A pe, rn_A pt, rn_A tp, rn_A ac, rn_A sz, rn_A dw, rn_A st, rn_A ty, rn_A ed, rn_B ps, rn_A fr, rn_A sp, rn_A go, rn_A nz, rn_B pg, rn_B cf, rn_B ct, rn_A tk, rn_A en, rn_B ch, rn_A nw, rn_A tl) x := by
  subst hx
  have A := hE c
  have B := hG c
  refine ⟨pk_in c 32 hc, pk_in c 32 hc, ?_⟩
  rw [rn_rA (by omega), rn_rA (by omega), show (16 : Int32) * nI (ed c) = nI (16 * ed c) from pk_mul 16 _, nI_add, rn_rB (by omega)]
  exact ⟨vp_in_nI (by omega) (by omega), h⟩
theorem rx_sz (post : Int32 → Prop) {c : Nat} {x : Int32} (hx : x = nI c) (hc : c < 32) (hT : ∀ c, ty c < 4) (h : post (nI (sz (ty c)))) : wpX_sizeOf post (nI tn, rn_A ln, rn_A fm, rn_A tt, rn_A le, rn_A li, rn_A rk, rn_A we, rn_A op, rn_A ca, rn_A mk, rn_B wd, rn_B wn, rn_A pc, rn_A ph, rn_A pa, rn_A pe, rn_A pt, rn_A tp, rn_A ac, rn_A sz, rn_A dw, rn_A st, rn_A ty, rn_A ed, rn_B ps, rn_A fr, rn_A sp, rn_A go, rn_A nz, rn_B pg, rn_B cf, rn_B ct, rn_A tk, rn_A en, rn_B ch, rn_A nw, rn_A tl) x := by
  subst hx
  have A := hT c
  refine ⟨pk_in c 32 hc, ?_⟩
  rw [rn_rA (by omega), rn_rA (by omega)]
  exact ⟨vp_in_nI A (by omega), h⟩
/-- on one edge -/
theorem rx_gp (post : Int32 → Prop) {c a : Nat} {x y : Int32} (hx : x = nI c) (hy : y = nI a) (I : (rq_L ln fm tt le li rk we op mk wd wn pc ph pa pe pt se ls mo tp ac sz dw st ty ed fr sp go tk en ch ps pg cf ct la gr cr ne nl oe ol fl tl tn N)) (hc : c < 32) (ha : a < 32) (he : ed a = ed c) (h : post (ri_z ((fr a : Int) - sz (ty a) - 1 - fr c))) : wpX_gapTo post (nI tn, rn_A ln, rn_A fm, rn_A tt, rn_A le, rn_A li, rn_A rk, rn_A we, rn_A op, rn_A ca, rn_A mk, rn_B wd, rn_B wn, rn_A pc, rn_A ph, rn_A pa, rn_A pe, rn_A pt, rn_A tp, rn_A ac, rn_A sz, rn_A dw, rn_A st, rn_A ty, rn_A ed, rn_B ps, rn_A fr, rn_A sp, rn_A go, rn_A nz, rn_B pg, rn_B cf, rn_B ct, rn_A tk, rn_A en, rn_B ch, rn_A nw, rn_A tl) x y := by
  subst hx hy
  have A := rI_c I c
  have B := rI_c I a
  refine ⟨pk_in c 32 hc, nm_r (rn_rA (by omega)) ⟨pk_in a 32 ha, ?_⟩⟩
  refine ek_f (rn_e (rn_rA (by omega)) (b := ed c) rfl (by omega) (by omega)) (fun _ => ⟨pk_in a 32 ha, ?_⟩) (fun k => absurd he k)
  refine rx_sz _ rfl ha (fun c => (rI_c I c).2.1) ⟨pk_in c 32 hc, ?_⟩
  rw [rn_rA (by omega), rn_rA (by omega), Int32.add_zero, ri_n, ri_n, ri_n, ri_sub, show (1 : Int32) = ri_z 1 from ri_n 1, ri_sub, ri_sub]
  exact h
theorem rx_gq (post : Int32 → Prop) {c a : Nat} {x y : Int32} (hx : x = nI c) (hy : y = nI a) (I : (rq_L ln fm tt le li rk we op mk wd wn pc ph pa pe pt se ls mo tp ac sz dw st ty ed fr sp go tk en ch ps pg cf ct la gr cr ne nl oe ol fl tl tn N)) (hc : c < 32) (ha : a < 32) (he : ed a ≠ ed c) (h : post (ri_z ((fr a : Int) - sz (ty a) - 1 - fr c + le (ed c)))) : wpX_gapTo post (nI tn, rn_A ln, rn_A fm, rn_A tt, rn_A le, rn_A li, rn_A rk, rn_A we, rn_A op, rn_A ca, rn_A mk, rn_B wd, rn_B wn, rn_A pc, rn_A ph, rn_A pa, rn_A pe, rn_A pt, rn_A tp, rn_A ac, rn_A sz, rn_A dw, rn_A st, rn_A ty, rn_A ed, rn_B ps, rn_A fr, rn_A sp, rn_A go, rn_A nz, rn_B pg, rn_B cf, rn_B ct, rn_A tk, rn_A en, rn_B ch, rn_A nw, rn_A tl) x y := by
  subst hx hy
  have A := rI_c I c
  have B := rI_c I a
  have C := rI_e I (ed c)
  refine ⟨pk_in c 32 hc, nm_r (rn_rA (by omega)) ⟨pk_in a 32 ha, ?_⟩⟩
  refine ek_f (rn_e (rn_rA (by omega)) (b := ed c) rfl (by omega) (by omega)) (fun k => absurd k he) (fun _ => ⟨vp_in_nI (by omega) (by omega), pk_in a 32 ha, ?_⟩)
  refine rx_sz _ rfl ha (fun c => (rI_c I c).2.1) ⟨pk_in c 32 hc, ?_⟩
  rw [rn_rA (by omega), rn_rA (by omega), rn_rA (by omega), ri_n, ri_n, ri_n, ri_n, ri_sub, show (1 : Int32) = ri_z 1 from ri_n 1, ri_sub, ri_sub, ri_add]
  exact h
theorem rx_gn (post : Int32 → Prop) {e : Nat} {x : Int32} (hx : x = nI e) (hE : (rq_E ln fm tt le li rk we op mk)) (hP : (rq_P pc ph pa pe pt se ls mo N)) (he : e < 16) (h : post (rb_ ((rq_gn tt pc ph pe) e))) : wpX_isGreen post (nI tn, rn_A ln, rn_A fm, rn_A tt, rn_A le, rn_A li, rn_A rk, rn_A we, rn_A op, rn_A ca, rn_A mk, rn_B wd, rn_B wn, rn_A pc, rn_A ph, rn_A pa, rn_A pe, rn_A pt, rn_A tp, rn_A ac, rn_A sz, rn_A dw, rn_A st, rn_A ty, rn_A ed, rn_B ps, rn_A fr, rn_A sp, rn_A go, rn_A nz, rn_B pg, rn_B cf, rn_B ct, rn_A tk, rn_A en, rn_B ch, rn_A nw, rn_A tl) x := by
  subst hx
  have A := hE.1 e
  obtain ⟨p1, p2, p3, p4, p5⟩ := hP (tt e) (by omega)
  refine ⟨pk_in e 16 he, nm_r (rn_rA (by omega)) ⟨vp_in_nI (by omega) (by omega), ?_⟩⟩
  refine ek_f (rn_e (rn_rA (by omega)) (b := 0) rfl (by omega) (by omega)) (fun k => rb_p1 h (Or.inl k)) (fun k => ⟨vp_in_nI (by omega) (by omega), ?_⟩)
  have q := p3 (by omega)
  have r := p5 _ q
  rw [rn_rA (by omega), show (4 : Int32) * nI (tt e) = nI (4 * tt e) from pk_mul 4 _, nI_add, rn_rA (by omega)]
  exact ⟨vp_in_nI (by omega) (by omega), ek_f (rd_bt1 (by omega) (by omega)) (fun k2 => rb_p1 h (Or.inr k2)) (fun k2 => rb_p0 h (fun w => w.elim k k2))⟩
theorem rx_my (post : Int32 → Prop) {c : Nat} {x : Int32} (hx : x = nI c) (I : (rq_L ln fm tt le li rk we op mk wd wn pc ph pa pe pt se ls mo tp ac sz dw st ty ed fr sp go tk en ch ps pg cf ct la gr cr ne nl oe ol fl tl tn N)) (hc : c < 32) (h : post (rb_ ((rq_may pg ch) N c))) : wpX_mayChange post (nI tn, rn_A ln, rn_A fm, rn_A tt, rn_A le, rn_A li, rn_A rk, rn_A we, rn_A op, rn_A ca, rn_A mk, rn_B wd, rn_B wn, rn_A pc, rn_A ph, rn_A pa, rn_A pe, rn_A pt, rn_A tp, rn_A ac, rn_A sz, rn_A dw, rn_A st, rn_A ty, rn_A ed, rn_B ps, rn_A fr, rn_A sp, rn_A go, rn_A nz, rn_B pg, rn_B cf, rn_B ct, rn_A tk, rn_A en, rn_B ch, rn_A nw, rn_A tl) x := by
  subst hx
  have A := rI_c I c
  have B := rI_p I hc
  have C := I.2.2.2.2.2
  refine ⟨pk_in c 32 hc, ?_⟩
  refine ek_f (rn_2 (rn_rB (by omega)) (b := 0) rfl (by omega) (by omega)) (fun e1 => ⟨pk_in c 32 hc, ?_⟩) (fun e1 => rb_p0 h (fun w => e1 w.1))
  refine ek_f (rn_2 (rn_rB (by omega)) (b := 0) rfl (by omega) (by omega)) (fun e2 => rb_p1 h ⟨e1, Or.inl e2⟩) (fun e2 => ⟨pk_in c 32 hc, ?_⟩)
  have v : rn_A tl 0 - rn_B ch (nI c).toNatClampNeg = ri_z ((N : Int) - ((ch c : Int) - 1)) := by
    rw [rn_rB (by omega), rn_cz, if_neg (by omega), show rn_A tl 0 = nI (tl 0) from rfl, C.1, ri_n, ri_sub]
  exact ek_f (ri_l v (b := 4) (ri_n 4) (by omega) (by omega)) (fun e3 => rb_p0 h (fun w => by have := w.2; omega)) (fun e3 => rb_p1 h ⟨e1, Or.inr (by omega)⟩)
end
end
section
/-! Y: the small ones, the ways -/
theorem rn_nb {b : Nat} (h : b ≤ 1) : narrow .boolean (.int (nI b)) = .int (nI b) := by
  rcases Nat.eq_zero_or_pos b with z | z
  · subst z; rfl
  · have : b = 1 := by omega
    subst this; rfl
section
variable {ln fm tt le li rk we op ca mk wd wn fa pc ph pa pe pt se ls mo tp ac sz dw st ty ed fr sp go nz tk en ch nw ps pg cf ct la gr cr ne nl oe ol fl tl : Nat → Nat} {tn kn N : Nat} {th : Int32} {gp fs : Nat → Int32}
theorem ry_in (post : Int32 → Prop) (x a b : Int32) (h : post (rb_ (¬ x < a ∧ ¬ b < x))) : wpY_in post x a b := by
  refine br_c (fun k => ?_) (fun k => br_c (fun k2 => ?_) (fun k2 => ?_))
  · exact rb_p0 h (fun w => w.1 k)
  · exact rb_p0 h (fun w => w.2 k2)
  · exact rb_p1 h ⟨k, k2⟩
theorem ry_ie (post : Int32 → Prop) (x : Int32) (h : post (rb_ (rq_th ln x))) : wpY_isEdge post (nI kn, nI tn, th, rn_T ln, rn_A op, rn_A fm, rn_A tt, rn_A le, rn_A ln, rn_A li, rn_A rk, rn_A we, rn_A ca, rn_A mk, rn_A fa, rn_A tp, rn_A ac, rn_A sz, rn_A dw, rn_A st, rn_A ty, rn_A ed, rn_A la, rn_A fr, rn_A sp, rn_A go, rn_A nz, rn_A tk, rn_C ch, rn_A en, rn_A nw, rn_A gr, rn_A cr, rn_A ne, rn_A nl, rn_A oe, rn_A ol, rn_A fl, rn_A pc, rn_A ph, rn_A pa, rn_A se, rn_A ls, rn_A mo, rn_A tl, gp, fs) x := by
  unfold wpY_isEdge
  refine ry_in _ x 0 15 (rb_b (fun k => ?_) (fun k => ?_))
  · exact rb_p0 h (fun ⟨e, e1, e2, _⟩ => k ⟨(rn_o e2 e1 (by omega)).1, by rw [e2]; exact nI_nlt (b := e) (a := 15) (by omega) (by omega)⟩)
  · obtain ⟨e, he, rfl⟩ := nI_of k.1
    have e6 : e < 16 := by
      rcases Nat.lt_or_ge e 16 with z | z
      · exact z
      · exact absurd (nI_lt (a := 15) z he) k.2
    refine ⟨pk_in e 16 e6, ek_f (rn_TT (by omega)) (fun z => ?_) (fun z => ?_)⟩
    · exact rb_p0 h (fun ⟨d, d1, d2, d3⟩ => by rw [nI_eq (by omega) (by omega)] at d2; subst d2; omega)
    · exact rb_p1 h ⟨e, e6, rfl, by omega⟩
theorem ry_sz (post : Int32 → Prop) {c : Nat} {x : Int32} (hx : x = nI c) (hc : c < 32) (hT : ∀ c, ty c < 4) (h : post (nI (sz (ty c)))) : wpY_sizeOf post (nI kn, nI tn, th, rn_T ln, rn_A op, rn_A fm, rn_A tt, rn_A le, rn_A ln, rn_A li, rn_A rk, rn_A we, rn_A ca, rn_A mk, rn_A fa, rn_A tp, rn_A ac, rn_A sz, rn_A dw, rn_A st, rn_A ty, rn_A ed, rn_A la, rn_A fr, rn_A sp, rn_A go, rn_A nz, rn_A tk, rn_C ch, rn_A en, rn_A nw, rn_A gr, rn_A cr, rn_A ne, rn_A nl, rn_A oe, rn_A ol, rn_A fl, rn_A pc, rn_A ph, rn_A pa, rn_A se, rn_A ls, rn_A mo, rn_A tl, gp, fs) x := by
  subst hx
  have A := hT c
  refine ⟨pk_in c 32 hc, ?_⟩
  rw [rn_rA (by omega), rn_rA (by omega)]
  exact ⟨vp_in_nI A (by omega), h⟩
theorem ry_gp (post : Int32 → Prop) {c a : Nat} {x y : Int32} (hx : x = nI c) (hy : y = nI a) (hT : ∀ c, ty c < 4) (hc : c < 32) (ha : a < 32) (h : post (ri_z ((fr a : Int) - sz (ty a) - 1 - fr c))) : wpY_gapTo post (nI kn, nI tn, th, rn_T ln, rn_A op, rn_A fm, rn_A tt, rn_A le, rn_A ln, rn_A li, rn_A rk, rn_A we, rn_A ca, rn_A mk, rn_A fa, rn_A tp, rn_A ac, rn_A sz, rn_A dw, rn_A st, rn_A ty, rn_A ed, rn_A la, rn_A fr, rn_A sp, rn_A go, rn_A nz, rn_A tk, rn_C ch, rn_A en, rn_A nw, rn_A gr, rn_A cr, rn_A ne, rn_A nl, rn_A oe, rn_A ol, rn_A fl, rn_A pc, rn_A ph, rn_A pa, rn_A se, rn_A ls, rn_A mo, rn_A tl, gp, fs) x y := by
  subst hx hy
  refine ⟨pk_in a 32 ha, ry_sz _ rfl ha hT ⟨pk_in c 32 hc, ?_⟩⟩
  rw [rn_rA (by omega), rn_rA (by omega), ri_n, ri_n, ri_n, ri_sub, show (1 : Int32) = ri_z 1 from ri_n 1, ri_sub, ri_sub]
  exact h
theorem ry_ld (post : Int32 → Prop) {e l f : Nat} {x y w : Int32} (hx : x = nI e) (hy : y = nI l) (hw : w = nI f) (hE : (rq_E ln fm tt le li rk we op mk)) (he : e < 16) (hl : l ≤ 1) (hf : f < 16) (h : post (rb_ ((rq_ld ln fm tt mk) (2 * e + l) f))) : wpY_leads post (nI kn, nI tn, th, rn_T ln, rn_A op, rn_A fm, rn_A tt, rn_A le, rn_A ln, rn_A li, rn_A rk, rn_A we, rn_A ca, rn_A mk, rn_A fa, rn_A tp, rn_A ac, rn_A sz, rn_A dw, rn_A st, rn_A ty, rn_A ed, rn_A la, rn_A fr, rn_A sp, rn_A go, rn_A nz, rn_A tk, rn_C ch, rn_A en, rn_A nw, rn_A gr, rn_A cr, rn_A ne, rn_A nl, rn_A oe, rn_A ol, rn_A fl, rn_A pc, rn_A ph, rn_A pa, rn_A se, rn_A ls, rn_A mo, rn_A tl, gp, fs) x y w := by
  subst hx hy hw
  have A := hE.1 f
  have B := hE.1 e
  have C := hE.1 (2 * e + l)
  have q : (2 * e + l) / 2 = e := by omega
  refine ⟨pk_in f 16 hf, ek_f (rn_TT (by omega)) (fun z => ?_) (fun z => ⟨pk_in f 16 hf, pk_in e 16 he, ?_⟩)⟩
  · exact rb_p0 h (fun w => z w.1)
  · refine ek_f (rn_e (rn_rA (by omega)) (rn_rA (by omega)) (by omega) (by omega)) (fun e3 => ?_) (fun e3 => rb_p0 h (fun w => e3 (by have := w.2.1; rw [q] at this; exact this)))
    rw [show (2 : Int32) * nI e = nI (2 * e) from pk_mul 2 e, nI_add, rn_rA (by omega)]
    exact ⟨vp_in_nI (by omega) (by omega), ek_f (rd_bt1 (by omega) (by omega)) (fun e4 => rb_p1 h ⟨Classical.not_not.mp z, by rw [q]; exact e3, e4⟩) (fun e4 => rb_p0 h (fun w => e4 w.2.2))⟩
theorem ry_lt (post : Int32 → Prop) {e f : Nat} {x y : Int32} (hx : x = nI e) (hy : y = nI f) (hE : (rq_E ln fm tt le li rk we op mk)) (he : e < 16) (hf : f < 16) (h : post (rb_ ((rq_el ln fm tt mk) e f))) : wpY_leadsTo post (nI kn, nI tn, th, rn_T ln, rn_A op, rn_A fm, rn_A tt, rn_A le, rn_A ln, rn_A li, rn_A rk, rn_A we, rn_A ca, rn_A mk, rn_A fa, rn_A tp, rn_A ac, rn_A sz, rn_A dw, rn_A st, rn_A ty, rn_A ed, rn_A la, rn_A fr, rn_A sp, rn_A go, rn_A nz, rn_A tk, rn_C ch, rn_A en, rn_A nw, rn_A gr, rn_A cr, rn_A ne, rn_A nl, rn_A oe, rn_A ol, rn_A fl, rn_A pc, rn_A ph, rn_A pa, rn_A se, rn_A ls, rn_A mo, rn_A tl, gp, fs) x y := by
  subst hx hy
  have A := hE.1 e
  unfold wpY_leadsTo
  refine ry_ld _ (l := 0) rfl rfl rfl hE he (by omega) hf ?_
  refine rb_b (fun k1 => ⟨pk_in e 16 he, ?_⟩) (fun k1 => rb_p1 h (Or.inl k1))
  refine ek_f (rn_e (rn_rA (by omega)) (b := 2) rfl (by omega) (by omega)) (fun e2 => ?_) (fun e2 => rb_p0 h (fun w => w.elim k1 (fun v => e2 v.1)))
  refine ry_ld _ (l := 1) rfl rfl rfl hE he (by omega) hf ?_
  exact rb_b (fun k2 => rb_p0 h (fun w => w.elim k1 (fun v => k2 v.2))) (fun k2 => rb_p1 h (Or.inr ⟨e2, k2⟩))
theorem ry_co (post : Int32 → Prop) {e : Nat} {x : Int32} (hx : x = nI e) (hE : (rq_E ln fm tt le li rk we op mk)) (he : e < 16) (ht : 0 < ln e) (h : post (nI ((rq_co le li we) e))) : wpY_cost post (nI kn, nI tn, th, rn_T ln, rn_A op, rn_A fm, rn_A tt, rn_A le, rn_A ln, rn_A li, rn_A rk, rn_A we, rn_A ca, rn_A mk, rn_A fa, rn_A tp, rn_A ac, rn_A sz, rn_A dw, rn_A st, rn_A ty, rn_A ed, rn_A la, rn_A fr, rn_A sp, rn_A go, rn_A nz, rn_A tk, rn_C ch, rn_A en, rn_A nw, rn_A gr, rn_A cr, rn_A ne, rn_A nl, rn_A oe, rn_A ol, rn_A fl, rn_A pc, rn_A ph, rn_A pa, rn_A se, rn_A ls, rn_A mo, rn_A tl, gp, fs) x := by
  subst hx
  have A := hE.1 e
  have B := hE.2.1 e ht
  refine ⟨pk_in e 16 he, pk_in e 16 he, pk_in e 16 he, ?_⟩
  rw [rn_rA (by omega), rn_rA (by omega), rn_rA (by omega)]
  refine ⟨nI_ne0 (by omega) (by omega), pk_in e 16 he, ?_⟩
  rw [nI_add, show (1 : Int32) = nI 1 from rfl, pk_sub (by omega), pk_div (by omega) (by omega) (by omega), nI_add]
  exact h
theorem ry_gn (post : Int32 → Prop) {e : Nat} {x : Int32} (hx : x = nI e) (hE : (rq_E ln fm tt le li rk we op mk)) (hP : (rq_P pc ph pa pe pt se ls mo N)) (he : e < 16) (h : post (rb_ ((rq_gn tt pc ph pe) e))) : wpY_isGreen post (nI kn, nI tn, th, rn_T ln, rn_A op, rn_A fm, rn_A tt, rn_A le, rn_A ln, rn_A li, rn_A rk, rn_A we, rn_A ca, rn_A mk, rn_A fa, rn_A tp, rn_A ac, rn_A sz, rn_A dw, rn_A st, rn_A ty, rn_A ed, rn_A la, rn_A fr, rn_A sp, rn_A go, rn_A nz, rn_A tk, rn_C ch, rn_A en, rn_A nw, rn_A gr, rn_A cr, rn_A ne, rn_A nl, rn_A oe, rn_A ol, rn_A fl, rn_A pc, rn_A ph, rn_A pa, rn_A se, rn_A ls, rn_A mo, rn_A tl, gp, fs) x := by
  subst hx
  have A := hE.1 e
  obtain ⟨p1, p2, p3, p4, p5⟩ := hP (tt e) (by omega)
  refine ⟨pk_in e 16 he, nm_r (rn_rA (by omega)) ⟨vp_in_nI (by omega) (by omega), ?_⟩⟩
  refine ek_f (rn_e (rn_rA (by omega)) (b := 0) rfl (by omega) (by omega)) (fun k => rb_p1 h (Or.inl k)) (fun k => ⟨vp_in_nI (by omega) (by omega), ?_⟩)
  have q := p3 (by omega)
  have r := p5 _ q
  unfold rq_gn at h
  rw [r.1] at h
  rw [rn_rA (by omega), show (4 : Int32) * nI (tt e) = nI (4 * tt e) from pk_mul 4 _, nI_add, rn_rA (by omega)]
  exact ⟨vp_in_nI (by omega) (by omega), ek_f (rd_bt1 (by omega) (by omega)) (fun k2 => rb_p1 h (Or.inr k2)) (fun k2 => rb_p0 h (fun w => w.elim k k2))⟩
/-! shorten -/
theorem ry_sh5 (post : Int32 → SY → Prop) {g e : Nat} {fa0 : Nat → Nat} (hE : (rq_E ln fm tt le li rk we op mk)) (hg : g < 16) (he : e < 16) (hte : 0 < ln e) (hn : e ≠ g)
    (H : ∀ b fa, b ≤ 1 → (ry_All (rq_K ln fm tt op mk) (rq_co le li we) ln fa) → (b = 0 → fa = fa0 ∧ (ry_At (rq_K ln fm tt op mk) (rq_co le li we) fa0) (16 * g + e)) → (b = 1 → ry_sum fa 256 < ry_sum fa0 256) → post (nI b) (nI kn, nI tn, th, rn_T ln, rn_A op, rn_A fm, rn_A tt, rn_A le, rn_A ln, rn_A li, rn_A rk, rn_A we, rn_A ca, rn_A mk, rn_A fa, rn_A tp, rn_A ac, rn_A sz, rn_A dw, rn_A st, rn_A ty, rn_A ed, rn_A la, rn_A fr, rn_A sp, rn_A go, rn_A nz, rn_A tk, rn_C ch, rn_A en, rn_A nw, rn_A gr, rn_A cr, rn_A ne, rn_A nl, rn_A oe, rn_A ol, rn_A fl, rn_A pc, rn_A ph, rn_A pa, rn_A se, rn_A ls, rn_A mo, rn_A tl, gp, fs)) :
    ∀ n f b fa, f ≤ 16 → 16 - f < n → b ≤ 1 → (ry_All (rq_K ln fm tt op mk) (rq_co le li we) ln fa) → (b = 0 → fa = fa0 ∧ ∀ f', f' < f → (rq_K ln fm tt op mk) e f' → fa0 (16 * g + f') < 1000000 → fa0 (16 * g + e) ≤ fa0 (16 * g + f') + (rq_co le li we) f') → (b = 1 → ry_sum fa 256 < ry_sum fa0 256) →
    wY_shorten_5 post (nI g) (nI e) (nI kn) (nI tn) th n (nI b) (nI f) (rn_T ln) (rn_A op) (rn_A fm) (rn_A tt) (rn_A le) (rn_A ln) (rn_A li) (rn_A rk) (rn_A we) (rn_A ca) (rn_A mk) (rn_A fa) (rn_A tp) (rn_A ac) (rn_A sz) (rn_A dw) (rn_A st) (rn_A ty) (rn_A ed) (rn_A la) (rn_A fr) (rn_A sp) (rn_A go) (rn_A nz) (rn_A tk) (rn_C ch) (rn_A en) (rn_A nw) (rn_A gr) (rn_A cr) (rn_A ne) (rn_A nl) (rn_A oe) (rn_A ol) (rn_A fl) (rn_A pc) (rn_A ph) (rn_A pa) (rn_A se) (rn_A ls) (rn_A mo) (rn_A tl) gp fs := by
  intro n
  induction n with
  | zero => intro f b fa h1 h2; omega
  | succ n ih =>
    intro f b fa hf hfn hb hA h0 h1
    refine pk_le 16 f (fun z => ⟨rn_nb hb, H b fa hb hA (fun w => ⟨(h0 w).1, fun f' hf' hk hK ht => ?_⟩) h1⟩) (fun z => ?_)
    · have e1 : (16 * g + e) % 16 = e := by omega
      have e2 : (16 * g + e) / 16 = g := by omega
      rw [e1] at hK
      rw [e2] at ht ⊢
      exact (h0 w).2 f' (by omega) hK ht
    · have ix : ∀ i, (16 : Int32) * nI g + nI i = nI (16 * g + i) := fun i => by rw [show (16 : Int32) * nI g = nI (16 * g) from pk_mul 16 _, nI_add]
      have A := hE.1 f
      have V1 := (hA g hg).1 f (by omega)
      have V2 := (hA g hg).1 e he
      have V3 : fa (16 * g + f) ≤ 1000000 := V1
      have V4 : fa (16 * g + e) ≤ 1000000 := V2
      have skip : ∀ b fa, b ≤ 1 → (ry_All (rq_K ln fm tt op mk) (rq_co le li we) ln fa) → (b = 0 → fa = fa0 ∧ ∀ f', f' < f + 1 → (rq_K ln fm tt op mk) e f' → fa0 (16 * g + f') < 1000000 → fa0 (16 * g + e) ≤ fa0 (16 * g + f') + (rq_co le li we) f') → (b = 1 → ry_sum fa 256 < ry_sum fa0 256) → wY_shorten_5 post (nI g) (nI e) (nI kn) (nI tn) th n (nI b) (nI (f + 1)) (rn_T ln) (rn_A op) (rn_A fm) (rn_A tt) (rn_A le) (rn_A ln) (rn_A li) (rn_A rk) (rn_A we) (rn_A ca) (rn_A mk) (rn_A fa) (rn_A tp) (rn_A ac) (rn_A sz) (rn_A dw) (rn_A st) (rn_A ty) (rn_A ed) (rn_A la) (rn_A fr) (rn_A sp) (rn_A go) (rn_A nz) (rn_A tk) (rn_C ch) (rn_A en) (rn_A nw) (rn_A gr) (rn_A cr) (rn_A ne) (rn_A nl) (rn_A oe) (rn_A ol) (rn_A fl) (rn_A pc) (rn_A ph) (rn_A pa) (rn_A se) (rn_A ls) (rn_A mo) (rn_A tl) gp fs := fun b fa => ih (f + 1) b fa (by omega) (by omega)
      have no : ((rq_K ln fm tt op mk) e f → fa0 (16 * g + f) < 1000000 → fa0 (16 * g + e) ≤ fa0 (16 * g + f) + (rq_co le li we) f) → (b = 0 → fa = fa0 ∧ ∀ f', f' < f + 1 → (rq_K ln fm tt op mk) e f' → fa0 (16 * g + f') < 1000000 → fa0 (16 * g + e) ≤ fa0 (16 * g + f') + (rq_co le li we) f') := by
        intro k w
        refine ⟨(h0 w).1, fun f' hf' => ?_⟩
        rcases Nat.decEq f' f with q | q
        · exact (h0 w).2 f' (by omega)
        · subst q; exact k
      refine ek_f (rn_e rfl rfl (by omega) (by omega)) (fun k => absurd k hn) (fun _ => ⟨pk_in f 16 z, ?_⟩)
      refine ek_f (rn_e (rn_rA (by omega)) (b := 0) rfl (by omega) (by omega)) (fun k => br_t rfl (nm_r (nI_1 f) (skip b fa hb hA (no (fun w => by have := w.2.1; omega)) h1))) (fun k => ?_)
      rw [ix, rn_rA (by omega)]
      refine ⟨vp_in_nI (by omega) (by omega), pk_le 1000000 (fa (16 * g + f)) (fun k2 => br_t rfl (nm_r (nI_1 f) (skip b fa hb hA (fun w => no (fun _ v => by rw [← (h0 w).1] at v; omega) w) h1))) (fun k2 => ?_)⟩
      refine ry_lt _ rfl rfl hE he z (rb_b (fun k3 => br_t rfl (nm_r (nI_1 f) (skip b fa hb hA (no (fun w => absurd w.2.2 k3)) h1))) (fun k3 => br_f (by decide) ?_))
      have hK : (rq_K ln fm tt op mk) e f := ⟨hte, by omega, k3⟩
      have hlf := (rq_Kf hK).1
      have hco := rq_coB hE hlf
      rw [ix, rn_rA (by omega)]
      refine ⟨vp_in_nI (by omega) (by omega), ry_co _ rfl hE z hlf (nm_r (nI_add _ _) ?_)⟩
      rw [ix, rn_rA (by omega)]
      refine ⟨vp_in_nI (by omega) (by omega), pk_lt (fa (16 * g + f) + (rq_co le li we) f) (fa (16 * g + e)) (fun k4 => ⟨vp_in_nI (by omega) (by omega), nm_r (rn_uA (by omega)) (nm_r (nI_1 f) ?_)⟩) (fun k4 => nm_r (nI_1 f) (skip b fa hb hA (fun w => no (fun _ _ => by rw [← (h0 w).1]; omega) w) h1))⟩
      refine skip 1 _ (by omega) (ry_AllU hA hg he z hn hK k2 k4) (fun w => by omega) (fun _ => ?_)
      have s1 := ry_sumL (T := fa) (e := 16 * g + e) k4 (n := 256) (by omega)
      rcases Nat.eq_zero_or_pos b with q | q
      · rw [← (h0 q).1]; exact s1
      · have := h1 (by omega); omega
theorem ry_shz (post : Int32 → SY → Prop) {g e : Nat} {x y : Int32} (hx : x = nI g) (hy : y = nI e) (hE : (rq_E ln fm tt le li rk we op mk)) (hg : g < 16) (he : e < 16) (hte : 0 < ln e) (hA : (ry_All (rq_K ln fm tt op mk) (rq_co le li we) ln fa))
    (H : ∀ b fa', b ≤ 1 → (ry_All (rq_K ln fm tt op mk) (rq_co le li we) ln fa') → (b = 0 → fa' = fa ∧ (ry_At (rq_K ln fm tt op mk) (rq_co le li we) fa) (16 * g + e)) → (b = 1 → ry_sum fa' 256 < ry_sum fa 256) → post (nI b) (nI kn, nI tn, th, rn_T ln, rn_A op, rn_A fm, rn_A tt, rn_A le, rn_A ln, rn_A li, rn_A rk, rn_A we, rn_A ca, rn_A mk, rn_A fa', rn_A tp, rn_A ac, rn_A sz, rn_A dw, rn_A st, rn_A ty, rn_A ed, rn_A la, rn_A fr, rn_A sp, rn_A go, rn_A nz, rn_A tk, rn_C ch, rn_A en, rn_A nw, rn_A gr, rn_A cr, rn_A ne, rn_A nl, rn_A oe, rn_A ol, rn_A fl, rn_A pc, rn_A ph, rn_A pa, rn_A se, rn_A ls, rn_A mo, rn_A tl, gp, fs)) : wpY_shorten post (nI kn, nI tn, th, rn_T ln, rn_A op, rn_A fm, rn_A tt, rn_A le, rn_A ln, rn_A li, rn_A rk, rn_A we, rn_A ca, rn_A mk, rn_A fa, rn_A tp, rn_A ac, rn_A sz, rn_A dw, rn_A st, rn_A ty, rn_A ed, rn_A la, rn_A fr, rn_A sp, rn_A go, rn_A nz, rn_A tk, rn_C ch, rn_A en, rn_A nw, rn_A gr, rn_A cr, rn_A ne, rn_A nl, rn_A oe, rn_A ol, rn_A fl, rn_A pc, rn_A ph, rn_A pa, rn_A se, rn_A ls, rn_A mo, rn_A tl, gp, fs) x y := by
  subst hx hy
  rcases Nat.decEq e g with q | q
  · exact ⟨17, ry_sh5 post hE hg he hte q H 17 0 0 fa (by omega) (by omega) (by omega) hA (fun _ => ⟨rfl, fun f' hf' => absurd hf' (Nat.not_lt_zero f')⟩) (fun w => by omega)⟩
  · subst q
    refine ⟨1, br_f (nI_ge (a := 0) (b := 16) (by omega) (by omega)) (br_t rfl ⟨rn_nb (b := 0) (by omega), H 0 fa (by omega) hA (fun _ => ⟨rfl, fun f' hf' hk => ?_⟩) (fun w => by omega)⟩)⟩
    exact absurd (by omega) hk
end
end
section
/-! Y: the ways, NEXT -/
theorem rn_or {a b : Nat} (ha : a ≤ 1) (hb : b ≤ 1) : nI a ||| nI b = nI (if a = 0 then b else 1) := by
  rcases Nat.eq_zero_or_pos a with z | z
  · subst z
    rcases Nat.eq_zero_or_pos b with w | w
    · subst w; decide
    · have : b = 1 := by omega
      subst this; decide
  · have : a = 1 := by omega
    subst this
    rcases Nat.eq_zero_or_pos b with w | w
    · subst w; decide
    · have : b = 1 := by omega
      subst this; decide
section
variable {ln fm tt le li rk we op ca mk wd wn fa pc ph pa pe pt se ls mo tp ac sz dw st ty ed fr sp go nz tk en ch nw ps pg cf ct la gr cr ne nl oe ol fl tl : Nat → Nat} {tn kn N : Nat} {th : Int32} {gp fs : Nat → Int32}
theorem ry_w82 (post : SY → Prop) {J : Int32 → Int32 → Int32 → Int32 → (Nat → Int32) → (Nat → Int32) → (Nat → Int32) → (Nat → Int32) → (Nat → Int32) → (Nat → Int32) → (Nat → Int32) → (Nat → Int32) → (Nat → Int32) → (Nat → Int32) → (Nat → Int32) → (Nat → Int32) → (Nat → Int32) → (Nat → Int32) → (Nat → Int32) → (Nat → Int32) → (Nat → Int32) → (Nat → Int32) → (Nat → Int32) → (Nat → Int32) → (Nat → Int32) → (Nat → Int32) → (Nat → Int32) → (Nat → Int32) → (Nat → Int32) → (Nat → Int32) → (Nat → Int32) → (Nat → Int32) → (Nat → Int32) → (Nat → Int32) → (Nat → Int32) → (Nat → Int32) → (Nat → Int32) → (Nat → Int32) → (Nat → Int32) → (Nat → Int32) → (Nat → Int32) → (Nat → Int32) → (Nat → Int32) → (Nat → Int32) → (Nat → Int32) → (Nat → Int32) → (Nat → Int32) → (Nat → Int32) → Prop} {fa0 : Nat → Nat} (hE : (rq_E ln fm tt le li rk we op mk))
    (H : ∀ b fa, b ≤ 1 → (ry_All (rq_K ln fm tt op mk) (rq_co le li we) ln fa) → (b = 0 → fa = fa0 ∧ ∀ k, k < 256 → (ry_At (rq_K ln fm tt op mk) (rq_co le li we) fa0) k) → (b = 1 → ry_sum fa 256 < ry_sum fa0 256) → J (nI b) (nI kn) (nI tn) th (rn_T ln) (rn_A op) (rn_A fm) (rn_A tt) (rn_A le) (rn_A ln) (rn_A li) (rn_A rk) (rn_A we) (rn_A ca) (rn_A mk) (rn_A fa) (rn_A tp) (rn_A ac) (rn_A sz) (rn_A dw) (rn_A st) (rn_A ty) (rn_A ed) (rn_A la) (rn_A fr) (rn_A sp) (rn_A go) (rn_A nz) (rn_A tk) (rn_C ch) (rn_A en) (rn_A nw) (rn_A gr) (rn_A cr) (rn_A ne) (rn_A nl) (rn_A oe) (rn_A ol) (rn_A fl) (rn_A pc) (rn_A ph) (rn_A pa) (rn_A se) (rn_A ls) (rn_A mo) (rn_A tl) gp fs) :
    ∀ n k b fa, k ≤ 256 → 256 - k < n → b ≤ 1 → (ry_All (rq_K ln fm tt op mk) (rq_co le li we) ln fa) → (b = 0 → fa = fa0 ∧ ∀ k', k' < k → (ry_At (rq_K ln fm tt op mk) (rq_co le li we) fa0) k') → (b = 1 → ry_sum fa 256 < ry_sum fa0 256) → wY_ways_82 post J n (nI b) (nI k) (nI kn) (nI tn) th (rn_T ln) (rn_A op) (rn_A fm) (rn_A tt) (rn_A le) (rn_A ln) (rn_A li) (rn_A rk) (rn_A we) (rn_A ca) (rn_A mk) (rn_A fa) (rn_A tp) (rn_A ac) (rn_A sz) (rn_A dw) (rn_A st) (rn_A ty) (rn_A ed) (rn_A la) (rn_A fr) (rn_A sp) (rn_A go) (rn_A nz) (rn_A tk) (rn_C ch) (rn_A en) (rn_A nw) (rn_A gr) (rn_A cr) (rn_A ne) (rn_A nl) (rn_A oe) (rn_A ol) (rn_A fl) (rn_A pc) (rn_A ph) (rn_A pa) (rn_A se) (rn_A ls) (rn_A mo) (rn_A tl) gp fs := by
  intro n
  induction n with
  | zero => intro k b fa h1 h2; omega
  | succ n ih =>
    intro k b fa hk hkn hb hA h0 h1
    refine pk_le 256 k (fun z => H b fa hb hA (fun w => ⟨(h0 w).1, fun k' hk' => (h0 w).2 k' (by omega)⟩) h1) (fun z => ⟨by decide, ?_⟩)
    have A := hE.1 (k % 16)
    have B := hE.1 (k / 16)
    have skip : (ry_At (rq_K ln fm tt op mk) (rq_co le li we) fa) k → wY_ways_82 post J n (nI b) (nI (k + 1)) (nI kn) (nI tn) th (rn_T ln) (rn_A op) (rn_A fm) (rn_A tt) (rn_A le) (rn_A ln) (rn_A li) (rn_A rk) (rn_A we) (rn_A ca) (rn_A mk) (rn_A fa) (rn_A tp) (rn_A ac) (rn_A sz) (rn_A dw) (rn_A st) (rn_A ty) (rn_A ed) (rn_A la) (rn_A fr) (rn_A sp) (rn_A go) (rn_A nz) (rn_A tk) (rn_C ch) (rn_A en) (rn_A nw) (rn_A gr) (rn_A cr) (rn_A ne) (rn_A nl) (rn_A oe) (rn_A ol) (rn_A fl) (rn_A pc) (rn_A ph) (rn_A pa) (rn_A se) (rn_A ls) (rn_A mo) (rn_A tl) gp fs := fun w => ih (k + 1) b fa (by omega) (by omega) hb hA (fun y => ⟨(h0 y).1, fun k' hk' => by
      rcases Nat.decEq k' k with q | q
      · exact (h0 y).2 k' (by omega)
      · subst q; rw [← (h0 y).1]; exact w⟩) h1
    have e1 : nI k - nI k / 16 * 16 = nI (k % 16) := pk_rem (d := 16) (by omega) (by omega) (by omega)
    have e2 : nI k / 16 = nI (k / 16) := pk_div (d := 16) (by omega) (by omega) (by omega)
    rw [e1]
    refine ⟨vp_in_nI (by omega) (by omega), ek_f (rn_TT (by omega)) (fun t1 => nm_r (nI_1 k) (skip (fun f _ _ hK _ => absurd hK.1 t1))) (fun t1 => ⟨by decide, ?_⟩)⟩
    rw [e2]
    refine ⟨vp_in_nI (by omega) (by omega), ek_f (rn_TT (by omega)) (fun t2 => nm_r (nI_1 k) (skip (fun f hf hn hK ht => absurd ht (ry_SupN (rq_hc hE) t2 (hA (k / 16) (by omega)) _ f hf (Nat.lt_succ_self _))))) (fun t2 => ⟨by decide, by decide, ?_⟩)⟩
    refine ry_shz _ rfl rfl hE (by omega) (by omega) (by omega) hA (fun r fa' hr hA' q0 q1 => nm_r (rn_or hb hr) (nm_r (nI_1 k) ?_))
    have ek : 16 * (k / 16) + k % 16 = k := by omega
    refine ih (k + 1) _ fa' (by omega) (by omega) (by split <;> omega) hA' (fun w => ?_) (fun w => ?_)
    · have b0 : b = 0 := by
        rcases Nat.eq_zero_or_pos b with q | q
        · exact q
        · rw [if_neg (by omega)] at w; omega
      rw [if_pos b0] at w
      obtain ⟨p1, p2⟩ := q0 w
      rw [ek] at p2
      refine ⟨p1.trans (h0 b0).1, fun k' hk' => ?_⟩
      rcases Nat.decEq k' k with q | q
      · exact (h0 b0).2 k' (by omega)
      · subst q; rw [← (h0 b0).1]; exact p2
    · rcases Nat.eq_zero_or_pos b with q | q
      · rw [if_pos q] at w
        rw [← (h0 q).1]; exact q1 w
      · have s1 := h1 (by omega)
        rcases Nat.eq_zero_or_pos r with p | p
        · rw [(q0 p).1]; exact s1
        · have := q1 (by omega); omega
theorem ry_w74 (post : SY → Prop) (hE : (rq_E ln fm tt le li rk we op mk)) (H : ∀ fa, (∀ g, g < 16 → ry_Bel (rq_K ln fm tt op mk) (rq_co le li we) g (0 < ln g) (fun e => fa (16 * g + e))) → post (nI kn, nI tn, th, rn_T ln, rn_A op, rn_A fm, rn_A tt, rn_A le, rn_A ln, rn_A li, rn_A rk, rn_A we, rn_A ca, rn_A mk, rn_A fa, rn_A tp, rn_A ac, rn_A sz, rn_A dw, rn_A st, rn_A ty, rn_A ed, rn_A la, rn_A fr, rn_A sp, rn_A go, rn_A nz, rn_A tk, rn_C ch, rn_A en, rn_A nw, rn_A gr, rn_A cr, rn_A ne, rn_A nl, rn_A oe, rn_A ol, rn_A fl, rn_A pc, rn_A ph, rn_A pa, rn_A se, rn_A ls, rn_A mo, rn_A tl, gp, fs)) : ∀ n fa, (ry_All (rq_K ln fm tt op mk) (rq_co le li we) ln fa) → ry_sum fa 256 + 1 < n → wY_ways_74 post n 1 (nI kn) (nI tn) th (rn_T ln) (rn_A op) (rn_A fm) (rn_A tt) (rn_A le) (rn_A ln) (rn_A li) (rn_A rk) (rn_A we) (rn_A ca) (rn_A mk) (rn_A fa) (rn_A tp) (rn_A ac) (rn_A sz) (rn_A dw) (rn_A st) (rn_A ty) (rn_A ed) (rn_A la) (rn_A fr) (rn_A sp) (rn_A go) (rn_A nz) (rn_A tk) (rn_C ch) (rn_A en) (rn_A nw) (rn_A gr) (rn_A cr) (rn_A ne) (rn_A nl) (rn_A oe) (rn_A ol) (rn_A fl) (rn_A pc) (rn_A ph) (rn_A pa) (rn_A se) (rn_A ls) (rn_A mo) (rn_A tl) gp fs := by
  intro n
  induction n with
  | zero => intro fa _ h; omega
  | succ n ih =>
    intro fa hA hs
    refine br_f (by decide) ⟨257, ry_w82 post (fa0 := fa) hE (fun b fa' hb hA' h0 h1 => ?_) 257 0 0 fa (by omega) (by omega) (by omega) hA (fun _ => ⟨rfl, fun k hk => absurd hk (Nat.not_lt_zero k)⟩) (fun w => by omega)⟩
    rcases Nat.eq_zero_or_pos b with q | q
    · subst q
      obtain ⟨m, rfl⟩ : ∃ m, n = m + 1 := ⟨n - 1, by omega⟩
      obtain ⟨p1, p2⟩ := h0 rfl
      subst p1
      exact br_t rfl (H fa' (ry_AllB hA' p2))
    · have b1 : b = 1 := by omega
      subst b1
      have := h1 rfl
      exact ih fa' hA' (by omega)
def ry_ini (ln : Nat → Nat) (k : Nat) : Nat := if k % 16 = k / 16 ∧ 0 < ln (k % 16) then 0 else 1000000
theorem ry_iniA (h : ∀ k, k < 256 → fa k = ry_ini ln k) : (ry_All (rq_K ln fm tt op mk) (rq_co le li we) ln fa) := by
  intro g hg
  have v : ∀ e, e < 16 → fa (16 * g + e) = if e = g ∧ 0 < ln e then 0 else 1000000 := by
    intro e he
    rw [h _ (by omega)]
    unfold ry_ini
    rw [show (16 * g + e) % 16 = e by omega, show (16 * g + e) / 16 = g by omega]
  refine ⟨fun e he => ?_, fun z => ?_, fun z => ?_, fun e he hn ht => ?_⟩
  · show fa (16 * g + e) ≤ 1000000
    rw [v e he]; split <;> omega
  · show fa (16 * g + g) = 0
    rw [v g hg, if_pos ⟨rfl, z⟩]
  · show fa (16 * g + g) = 1000000
    rw [v g hg, if_neg (fun w => z w.2)]
  · have : fa (16 * g + e) < 1000000 := ht
    rw [v e he, if_neg (fun w => hn w.1)] at this
    omega
theorem ry_w23 (post : SY → Prop) {J : Int32 → (Nat → Int32) → (Nat → Int32) → (Nat → Int32) → (Nat → Int32) → (Nat → Int32) → (Nat → Int32) → (Nat → Int32) → (Nat → Int32) → (Nat → Int32) → (Nat → Int32) → (Nat → Int32) → (Nat → Int32) → (Nat → Int32) → (Nat → Int32) → (Nat → Int32) → (Nat → Int32) → (Nat → Int32) → (Nat → Int32) → (Nat → Int32) → (Nat → Int32) → (Nat → Int32) → (Nat → Int32) → (Nat → Int32) → (Nat → Int32) → (Nat → Int32) → (Nat → Int32) → (Nat → Int32) → (Nat → Int32) → (Nat → Int32) → (Nat → Int32) → (Nat → Int32) → (Nat → Int32) → (Nat → Int32) → (Nat → Int32) → (Nat → Int32) → (Nat → Int32) → (Nat → Int32) → (Nat → Int32) → (Nat → Int32) → (Nat → Int32) → (Nat → Int32) → (Nat → Int32) → (Nat → Int32) → (Nat → Int32) → Prop} {g : Nat} (hg : g < 16)
    (H : ∀ fa, (∀ k, k < 16 * (g + 1) → fa k = ry_ini ln k) → J (nI (g + 1)) (rn_T ln) (rn_A op) (rn_A fm) (rn_A tt) (rn_A le) (rn_A ln) (rn_A li) (rn_A rk) (rn_A we) (rn_A ca) (rn_A mk) (rn_A fa) (rn_A tp) (rn_A ac) (rn_A sz) (rn_A dw) (rn_A st) (rn_A ty) (rn_A ed) (rn_A la) (rn_A fr) (rn_A sp) (rn_A go) (rn_A nz) (rn_A tk) (rn_C ch) (rn_A en) (rn_A nw) (rn_A gr) (rn_A cr) (rn_A ne) (rn_A nl) (rn_A oe) (rn_A ol) (rn_A fl) (rn_A pc) (rn_A ph) (rn_A pa) (rn_A se) (rn_A ls) (rn_A mo) (rn_A tl) gp fs) :
    ∀ n e fa, e ≤ 16 → 16 - e < n → (∀ k, k < 16 * g + e → fa k = ry_ini ln k) → wY_ways_23 post J (nI g) (nI kn) (nI tn) th n (nI e) (rn_T ln) (rn_A op) (rn_A fm) (rn_A tt) (rn_A le) (rn_A ln) (rn_A li) (rn_A rk) (rn_A we) (rn_A ca) (rn_A mk) (rn_A fa) (rn_A tp) (rn_A ac) (rn_A sz) (rn_A dw) (rn_A st) (rn_A ty) (rn_A ed) (rn_A la) (rn_A fr) (rn_A sp) (rn_A go) (rn_A nz) (rn_A tk) (rn_C ch) (rn_A en) (rn_A nw) (rn_A gr) (rn_A cr) (rn_A ne) (rn_A nl) (rn_A oe) (rn_A ol) (rn_A fl) (rn_A pc) (rn_A ph) (rn_A pa) (rn_A se) (rn_A ls) (rn_A mo) (rn_A tl) gp fs := by
  intro n
  induction n with
  | zero => intro e fa h1 h2; omega
  | succ n ih =>
    intro e fa he hen h0
    refine pk_le 16 e (fun z => nm_r (nI_1 g) (H fa (fun k hk => h0 k (by omega)))) (fun z => ?_)
    have ix : (16 : Int32) * nI g + nI e = nI (16 * g + e) := by rw [show (16 : Int32) * nI g = nI (16 * g) from pk_mul 16 _, nI_add]
    have go1 : ∀ x, x = ry_ini ln (16 * g + e) → wY_ways_23 post J (nI g) (nI kn) (nI tn) th n (nI (e + 1)) (rn_T ln) (rn_A op) (rn_A fm) (rn_A tt) (rn_A le) (rn_A ln) (rn_A li) (rn_A rk) (rn_A we) (rn_A ca) (rn_A mk) (rn_A (ru_p fa (16 * g + e) x)) (rn_A tp) (rn_A ac) (rn_A sz) (rn_A dw) (rn_A st) (rn_A ty) (rn_A ed) (rn_A la) (rn_A fr) (rn_A sp) (rn_A go) (rn_A nz) (rn_A tk) (rn_C ch) (rn_A en) (rn_A nw) (rn_A gr) (rn_A cr) (rn_A ne) (rn_A nl) (rn_A oe) (rn_A ol) (rn_A fl) (rn_A pc) (rn_A ph) (rn_A pa) (rn_A se) (rn_A ls) (rn_A mo) (rn_A tl) gp fs := fun x hx => ih (e + 1) _ (by omega) (by omega) (fun k hk => by
      rcases Nat.decEq k (16 * g + e) with q | q
      · rw [ru_n q]; exact h0 k (by omega)
      · subst q; rw [ru_s]; exact hx)
    have i1 : ry_ini ln (16 * g + e) = if e = g ∧ 0 < ln e then 0 else 1000000 := by
      unfold ry_ini
      rw [show (16 * g + e) % 16 = e by omega, show (16 * g + e) / 16 = g by omega]
    refine ek_f (rn_e rfl rfl (by omega) (by omega)) (fun k1 => ⟨pk_in e 16 z, ?_⟩) (fun k1 => ?_)
    · rw [ix]
      refine ek_f (rn_TT (by omega)) (fun k2 => ⟨vp_in_nI (by omega) (by omega), nm_r (rn_uA (x := 1000000) (by omega)) (nm_r (nI_1 e) (go1 _ (by rw [i1, if_neg (fun w => k2 w.2)])))⟩) (fun k2 => ⟨vp_in_nI (by omega) (by omega), nm_r (rn_uA (x := 0) (by omega)) (nm_r (nI_1 e) (go1 _ (by rw [i1, if_pos ⟨k1, Classical.not_not.mp k2⟩])))⟩)
    · rw [ix]
      exact ⟨vp_in_nI (by omega) (by omega), nm_r (rn_uA (x := 1000000) (by omega)) (nm_r (nI_1 e) (go1 _ (by rw [i1, if_neg (fun w => k1 w.1)])))⟩
theorem ry_w15 (post : SY → Prop) (hE : (rq_E ln fm tt le li rk we op mk)) (H : ∀ fa, (∀ g, g < 16 → ry_Bel (rq_K ln fm tt op mk) (rq_co le li we) g (0 < ln g) (fun e => fa (16 * g + e))) → post (nI kn, nI tn, th, rn_T ln, rn_A op, rn_A fm, rn_A tt, rn_A le, rn_A ln, rn_A li, rn_A rk, rn_A we, rn_A ca, rn_A mk, rn_A fa, rn_A tp, rn_A ac, rn_A sz, rn_A dw, rn_A st, rn_A ty, rn_A ed, rn_A la, rn_A fr, rn_A sp, rn_A go, rn_A nz, rn_A tk, rn_C ch, rn_A en, rn_A nw, rn_A gr, rn_A cr, rn_A ne, rn_A nl, rn_A oe, rn_A ol, rn_A fl, rn_A pc, rn_A ph, rn_A pa, rn_A se, rn_A ls, rn_A mo, rn_A tl, gp, fs)) : ∀ n g fa, g ≤ 16 → 16 - g < n → (∀ k, k < 16 * g → fa k = ry_ini ln k) → wY_ways_15 post (nI kn) (nI tn) th n (nI g) (rn_T ln) (rn_A op) (rn_A fm) (rn_A tt) (rn_A le) (rn_A ln) (rn_A li) (rn_A rk) (rn_A we) (rn_A ca) (rn_A mk) (rn_A fa) (rn_A tp) (rn_A ac) (rn_A sz) (rn_A dw) (rn_A st) (rn_A ty) (rn_A ed) (rn_A la) (rn_A fr) (rn_A sp) (rn_A go) (rn_A nz) (rn_A tk) (rn_C ch) (rn_A en) (rn_A nw) (rn_A gr) (rn_A cr) (rn_A ne) (rn_A nl) (rn_A oe) (rn_A ol) (rn_A fl) (rn_A pc) (rn_A ph) (rn_A pa) (rn_A se) (rn_A ls) (rn_A mo) (rn_A tl) gp fs := by
  intro n
  induction n with
  | zero => intro g fa h1 h2; omega
  | succ n ih =>
    intro g fa hg hgn h0
    refine pk_le 16 g (fun z => ⟨ry_sum fa 256 + 2, ry_w74 post hE H _ fa (ry_iniA (fun k hk => h0 k (by omega))) (by omega)⟩) (fun z => ⟨17, ?_⟩)
    exact ry_w23 post z (fun fa' h' => ih (g + 1) fa' (by omega) (by omega) h') 17 0 fa (by omega) (by omega) (fun k hk => h0 k (by omega))
theorem ry_ways (post : SY → Prop) (hE : (rq_E ln fm tt le li rk we op mk)) (hW : (rq_WY ln fm tt le li we op mk fa kn)) (H : ∀ fa, (∀ g, g < 16 → ry_Bel (rq_K ln fm tt op mk) (rq_co le li we) g (0 < ln g) (fun e => fa (16 * g + e))) → post (nI 1, nI tn, th, rn_T ln, rn_A op, rn_A fm, rn_A tt, rn_A le, rn_A ln, rn_A li, rn_A rk, rn_A we, rn_A ca, rn_A mk, rn_A fa, rn_A tp, rn_A ac, rn_A sz, rn_A dw, rn_A st, rn_A ty, rn_A ed, rn_A la, rn_A fr, rn_A sp, rn_A go, rn_A nz, rn_A tk, rn_C ch, rn_A en, rn_A nw, rn_A gr, rn_A cr, rn_A ne, rn_A nl, rn_A oe, rn_A ol, rn_A fl, rn_A pc, rn_A ph, rn_A pa, rn_A se, rn_A ls, rn_A mo, rn_A tl, gp, fs)) : wpY_ways post (nI kn, nI tn, th, rn_T ln, rn_A op, rn_A fm, rn_A tt, rn_A le, rn_A ln, rn_A li, rn_A rk, rn_A we, rn_A ca, rn_A mk, rn_A fa, rn_A tp, rn_A ac, rn_A sz, rn_A dw, rn_A st, rn_A ty, rn_A ed, rn_A la, rn_A fr, rn_A sp, rn_A go, rn_A nz, rn_A tk, rn_C ch, rn_A en, rn_A nw, rn_A gr, rn_A cr, rn_A ne, rn_A nl, rn_A oe, rn_A ol, rn_A fl, rn_A pc, rn_A ph, rn_A pa, rn_A se, rn_A ls, rn_A mo, rn_A tl, gp, fs) := by
  rcases hW with z | ⟨z, h⟩
  · subst z
    refine br_t rfl ⟨17, ?_⟩
    exact ry_w15 (kn := 1) post hE H 17 0 fa (by omega) (by omega) (fun k hk => by omega)
  · subst z
    exact br_f (by decide) (H fa h)
theorem ry_next (post : Int32 → SY → Prop) {e g : Nat} {x y : Int32} (hx : x = nI e) (hy : y = nI g) (hE : (rq_E ln fm tt le li rk we op mk)) (hX : (rq_WX ln fm tt le li we op mk wd wn)) (hW : (rq_WY ln fm tt le li we op mk fa kn)) (he : e < 16) (hg : g < 16)
    (H : ∀ fa, (∀ g, g < 16 → ry_Bel (rq_K ln fm tt op mk) (rq_co le li we) g (0 < ln g) (fun e => fa (16 * g + e))) → post (rn_c (wn (16 * e + g))) (nI 1, nI tn, th, rn_T ln, rn_A op, rn_A fm, rn_A tt, rn_A le, rn_A ln, rn_A li, rn_A rk, rn_A we, rn_A ca, rn_A mk, rn_A fa, rn_A tp, rn_A ac, rn_A sz, rn_A dw, rn_A st, rn_A ty, rn_A ed, rn_A la, rn_A fr, rn_A sp, rn_A go, rn_A nz, rn_A tk, rn_C ch, rn_A en, rn_A nw, rn_A gr, rn_A cr, rn_A ne, rn_A nl, rn_A oe, rn_A ol, rn_A fl, rn_A pc, rn_A ph, rn_A pa, rn_A se, rn_A ls, rn_A mo, rn_A tl, gp, fs)) : wpY_next post (nI kn, nI tn, th, rn_T ln, rn_A op, rn_A fm, rn_A tt, rn_A le, rn_A ln, rn_A li, rn_A rk, rn_A we, rn_A ca, rn_A mk, rn_A fa, rn_A tp, rn_A ac, rn_A sz, rn_A dw, rn_A st, rn_A ty, rn_A ed, rn_A la, rn_A fr, rn_A sp, rn_A go, rn_A nz, rn_A tk, rn_C ch, rn_A en, rn_A nw, rn_A gr, rn_A cr, rn_A ne, rn_A nl, rn_A oe, rn_A ol, rn_A fl, rn_A pc, rn_A ph, rn_A pa, rn_A se, rn_A ls, rn_A mo, rn_A tl, gp, fs) x y := by
  subst hx hy
  unfold wpY_next
  refine ry_ways _ hE hW (fun fa hF => ?_)
  have hp := H fa hF
  have F1 : ∀ i, i < 16 → fa (16 * g + i) ≤ 1000000 := fun i hi => (hF g hg).1.1 i hi
  refine ek_f (rn_e rfl rfl (by omega) (by omega)) (fun k1 => ?_) (fun k1 => ?_)
  · obtain ⟨T, t1, t2, t3, t4, t5⟩ := hX g hg
    rw [t4 e he k1] at hp
    exact hp
  · have ix : ∀ i, (16 : Int32) * nI g + nI i = nI (16 * g + i) := fun i => by rw [show (16 : Int32) * nI g = nI (16 * g) from pk_mul 16 _, nI_add]
    have V1 := F1 e he
    obtain ⟨n0, n1⟩ := rq_nextY hE hX hg (hF g hg) he k1
    rw [ix, rn_rA (by omega)]
    refine ⟨vp_in_nI (by omega) (by omega), pk_lt (fa (16 * g + e)) 1000000 (fun k2 => ?_) (fun k2 => ?_)⟩
    · rcases Nat.eq_zero_or_pos (wn (16 * e + g)) with q | q
      · exact absurd k2 (n0 q)
      · obtain ⟨f0, hf0⟩ : ∃ f0, wn (16 * e + g) = f0 + 1 := ⟨wn (16 * e + g) - 1, by omega⟩
        obtain ⟨a1, a2, a3, a4, a5, a6⟩ := n1 f0 hf0
        rw [hf0] at hp
        refine loop_0 (fun n i (_ : Unit) => wY_next_30 post (nI e) (nI g) (nI 1) (nI tn) th (rn_T ln) (rn_A op) (rn_A fm) (rn_A tt) (rn_A le) (rn_A ln) (rn_A li) (rn_A rk) (rn_A we) (rn_A ca) (rn_A mk) (rn_A fa) (rn_A tp) (rn_A ac) (rn_A sz) (rn_A dw) (rn_A st) (rn_A ty) (rn_A ed) (rn_A la) (rn_A fr) (rn_A sp) (rn_A go) (rn_A nz) (rn_A tk) (rn_C ch) (rn_A en) (rn_A nw) (rn_A gr) (rn_A cr) (rn_A ne) (rn_A nl) (rn_A oe) (rn_A ol) (rn_A fl) (rn_A pc) (rn_A ph) (rn_A pa) (rn_A se) (rn_A ls) (rn_A mo) (rn_A tl) gp fs n (nI i)) (fun i _ => i ≤ f0) 16 () (by omega) (fun n _ w => by omega) ?_
        intro n i _ hi hi0 ih
        have V2 := F1 i hi
        have A := hE.1 i
        have B3 := rq_Kf a3
        have B4 := hE.1 f0
        have stp : i ≠ f0 → wY_next_30 post (nI e) (nI g) (nI 1) (nI tn) th (rn_T ln) (rn_A op) (rn_A fm) (rn_A tt) (rn_A le) (rn_A ln) (rn_A li) (rn_A rk) (rn_A we) (rn_A ca) (rn_A mk) (rn_A fa) (rn_A tp) (rn_A ac) (rn_A sz) (rn_A dw) (rn_A st) (rn_A ty) (rn_A ed) (rn_A la) (rn_A fr) (rn_A sp) (rn_A go) (rn_A nz) (rn_A tk) (rn_C ch) (rn_A en) (rn_A nw) (rn_A gr) (rn_A cr) (rn_A ne) (rn_A nl) (rn_A oe) (rn_A ol) (rn_A fl) (rn_A pc) (rn_A ph) (rn_A pa) (rn_A se) (rn_A ls) (rn_A mo) (rn_A tl) gp fs n (nI (i + 1)) := fun w => ih () (by omega)
        refine br_f (nI_ge (b := 16) hi (by decide)) ⟨pk_in i 16 hi, ?_⟩
        refine ek_f (rn_e (rn_rA (by omega)) (b := 0) rfl (by omega) (by omega)) (fun m1 => br_t rfl (nm_r (nI_1 i) (stp (fun w => by subst w; omega)))) (fun m1 => ?_)
        rw [ix, rn_rA (by omega)]
        refine ⟨vp_in_nI (by omega) (by omega), pk_le 1000000 (fa (16 * g + i)) (fun m2 => br_t rfl (nm_r (nI_1 i) (stp (fun w => by subst w; exact absurd a4 (by show ¬ fa (16 * g + i) < 1000000; omega))))) (fun m2 => ?_)⟩
        refine ry_lt _ rfl rfl hE he hi (rb_b (fun m3 => br_t rfl (nm_r (nI_1 i) (stp (fun w => by subst w; exact m3 a3.2.2)))) (fun m3 => br_f (by decide) ?_))
        have hK : (rq_K ln fm tt op mk) e i := ⟨a3.1, by omega, m3⟩
        have hli := (rq_Kf hK).1
        have hco := rq_coB hE hli
        rw [ix, rn_rA (by omega)]
        refine ⟨vp_in_nI (by omega) (by omega), ry_co _ rfl hE hi hli ?_⟩
        rw [ix, rn_rA (by omega), nI_add]
        refine ⟨vp_in_nI (by omega) (by omega), ek_f (rn_e rfl rfl (by omega) (by omega)) (fun m4 => ?_) (fun m4 => nm_r (nI_1 i) (stp (fun w => by subst w; exact m4 a5)))⟩
        rcases Nat.decEq i f0 with w | w
        · exact absurd m4 (a6 i (by omega) hK m2)
        · subst w; exact hp
    · rcases Nat.eq_zero_or_pos (wn (16 * e + g)) with q | q
      · rw [q] at hp; exact hp
      · have := (n1 (wn (16 * e + g) - 1) (by omega)).1
        have : fa (16 * g + e) < 1000000 := this
        omega
theorem ry_nxo (post : Int32 → SY → Prop) {c : Nat} {x : Int32} (hx : x = nI c) (I : (rq_L ln fm tt le li rk we op mk wd wn pc ph pa pe pt se ls mo tp ac sz dw st ty ed fr sp go tk en ch ps pg cf ct la gr cr ne nl oe ol fl tl tn N)) (hW : (rq_WY ln fm tt le li we op mk fa kn)) (hc : c < 32) (H : ∀ kn fa, (rq_WY ln fm tt le li we op mk fa kn) → post (rn_c ((rq_nx wn ed go) c)) (nI kn, nI tn, th, rn_T ln, rn_A op, rn_A fm, rn_A tt, rn_A le, rn_A ln, rn_A li, rn_A rk, rn_A we, rn_A ca, rn_A mk, rn_A fa, rn_A tp, rn_A ac, rn_A sz, rn_A dw, rn_A st, rn_A ty, rn_A ed, rn_A la, rn_A fr, rn_A sp, rn_A go, rn_A nz, rn_A tk, rn_C ch, rn_A en, rn_A nw, rn_A gr, rn_A cr, rn_A ne, rn_A nl, rn_A oe, rn_A ol, rn_A fl, rn_A pc, rn_A ph, rn_A pa, rn_A se, rn_A ls, rn_A mo, rn_A tl, gp, fs)) : wpY_nextOf post (nI kn, nI tn, th, rn_T ln, rn_A op, rn_A fm, rn_A tt, rn_A le, rn_A ln, rn_A li, rn_A rk, rn_A we, rn_A ca, rn_A mk, rn_A fa, rn_A tp, rn_A ac, rn_A sz, rn_A dw, rn_A st, rn_A ty, rn_A ed, rn_A la, rn_A fr, rn_A sp, rn_A go, rn_A nz, rn_A tk, rn_C ch, rn_A en, rn_A nw, rn_A gr, rn_A cr, rn_A ne, rn_A nl, rn_A oe, rn_A ol, rn_A fl, rn_A pc, rn_A ph, rn_A pa, rn_A se, rn_A ls, rn_A mo, rn_A tl, gp, fs) x := by
  subst hx
  have A := rI_c I c
  refine ⟨pk_in c 32 hc, pk_in c 32 hc, ry_next _ (rn_rA (by omega)) (rn_rA (by omega)) I.1 I.2.2.2.2.1 hW A.2.2.1 A.2.2.2.1 (fun fa hF => H 1 fa (Or.inr ⟨rfl, hF⟩))⟩
end
end
section
/-! X: the ways -/
theorem ry_col {w : Nat → Nat} {e g l : Nat} : (fun f => ru_p w (16 * e + g) l (16 * f + g)) = ru_p (fun f => w (16 * f + g)) e l := by
  funext f
  unfold ru_p
  by_cases h : f = e
  · rw [if_pos (by omega), if_pos h]
  · rw [if_neg (by omega), if_neg h]
/-- what rq_WX says of one goal -/
def rq_W1 (ln fm tt le li we op mk wd wn : Nat → Nat) (g : Nat) : Prop := ∃ T, ry_Bel (rq_K ln fm tt op mk) (rq_co le li we) g (0 < ln g) T ∧
  (∀ e, e < 16 → T e < 1000000 → T e ≤ 400000) ∧ (∀ e, e < 16 → wd (16 * e + g) = if T e < 1000000 then T e + 1 else 0) ∧
  (∀ e, e < 16 → e = g → wn (16 * e + g) = 0) ∧ (∀ e, e < 16 → e ≠ g → ry_Nx (rq_K ln fm tt op mk) (rq_co le li we) T e (wn (16 * e + g)))
section
variable {ln fm tt le li rk we op ca mk wd wn fa pc ph pa pe pt se ls mo tp ac sz dw st ty ed fr sp go nz tk en ch nw ps pg cf ct la gr cr ne nl oe ol fl tl : Nat → Nat} {tn kn N : Nat} {th : Int32} {gp fs : Nat → Int32}
theorem rq_W1o {wd' wn' : Nat → Nat} {g g' : Nat} (hn : g' ≠ g) (hg : g < 16) (hg' : g' < 16) (h : rq_W1 ln fm tt le li we op mk wd wn g') (o : ∀ k, k % 16 ≠ g → wd' k = wd k ∧ wn' k = wn k) : rq_W1 ln fm tt le li we op mk wd' wn' g' := by
  obtain ⟨T, t1, t2, t3, t4, t5⟩ := h
  have c : ∀ e, wd' (16 * e + g') = wd (16 * e + g') ∧ wn' (16 * e + g') = wn (16 * e + g') := fun e => o _ (by omega)
  refine ⟨T, t1, t2, fun e he => ?_, fun e he hq => ?_, fun e he hq => ?_⟩
  · rw [(c e).1]; exact t3 e he
  · rw [(c e).2]; exact t4 e he hq
  · rw [(c e).2]; exact t5 e he hq
theorem rq_W1f {g : Nat} (hg : g < 16) (hb : ∀ e, e < 16 → wd (16 * e + g) ≤ 400001) (hn : wn (16 * g + g) = 0) (h : ry_Bel (rq_K ln fm tt op mk) (rq_co le li we) g (0 < ln g) (ry_dec (fun f => wd (16 * f + g))) ∧ ∀ e, e < 16 → e ≠ g → ry_Nx (rq_K ln fm tt op mk) (rq_co le li we) (ry_dec (fun f => wd (16 * f + g))) e (wn (16 * e + g))) : rq_W1 ln fm tt le li we op mk wd wn g := by
  have v : ∀ e, e < 16 → (ry_dec (fun f => wd (16 * f + g)) e < 1000000 ↔ 0 < wd (16 * e + g)) := fun e he => ry_decL (δ := fun f => wd (16 * f + g)) (by have := hb e he; show wd (16 * e + g) ≤ 1000000; omega)
  have u : ∀ e, 0 < wd (16 * e + g) → ry_dec (fun f => wd (16 * f + g)) e + 1 = wd (16 * e + g) := fun e he => ry_decV (δ := fun f => wd (16 * f + g)) he
  refine ⟨_, h.1, fun e he ht => ?_, fun e he => ?_, fun e he hq => by rw [hq]; exact hn, h.2⟩
  · have a := u e ((v e he).mp ht)
    have b := hb e he
    omega
  · by_cases z : ry_dec (fun f => wd (16 * f + g)) e < 1000000
    · rw [if_pos z]; exact (u e ((v e he).mp z)).symm
    · rw [if_neg z]
      rcases Nat.eq_zero_or_pos (wd (16 * e + g)) with q | q
      · exact q
      · exact absurd ((v e he).mpr q) z
theorem rx_fn (post : Int32 → SX → Prop) {e g : Nat} {x y : Int32} (hx : x = nI e) (hy : y = nI g) (hE : (rq_E ln fm tt le li rk we op mk)) (he : e < 16) (hg : g < 16) (hte : 0 < ln e) (hB : ∀ f, f < 16 → wd (16 * f + g) ≤ 400000)
    (H : ∀ b l, ry_Fn (rq_K ln fm tt op mk) (rq_co le li we) (fun f => wd (16 * f + g)) e 16 b l → post (rb_ (wd (16 * e + g) ≠ l)) (nI tn, rn_A ln, rn_A fm, rn_A tt, rn_A le, rn_A li, rn_A rk, rn_A we, rn_A op, rn_A ca, rn_A mk, rn_B (ru_p wd (16 * e + g) l), rn_B (ru_p wn (16 * e + g) b), rn_A pc, rn_A ph, rn_A pa, rn_A pe, rn_A pt, rn_A tp, rn_A ac, rn_A sz, rn_A dw, rn_A st, rn_A ty, rn_A ed, rn_B ps, rn_A fr, rn_A sp, rn_A go, rn_A nz, rn_B pg, rn_B cf, rn_B ct, rn_A tk, rn_A en, rn_B ch, rn_A nw, rn_A tl)) : wpX_findNext post (nI tn, rn_A ln, rn_A fm, rn_A tt, rn_A le, rn_A li, rn_A rk, rn_A we, rn_A op, rn_A ca, rn_A mk, rn_B wd, rn_B wn, rn_A pc, rn_A ph, rn_A pa, rn_A pe, rn_A pt, rn_A tp, rn_A ac, rn_A sz, rn_A dw, rn_A st, rn_A ty, rn_A ed, rn_B ps, rn_A fr, rn_A sp, rn_A go, rn_A nz, rn_B pg, rn_B cf, rn_B ct, rn_A tk, rn_A en, rn_B ch, rn_A nw, rn_A tl) x y := by
  subst hx hy
  have ix : ∀ i, (16 : Int32) * nI i + nI g = nI (16 * i + g) := fun i => by rw [show (16 : Int32) * nI i = nI (16 * i) from pk_mul 16 _, nI_add]
  have bd : ∀ {n b l}, n ≤ 16 → ry_Fn (rq_K ln fm tt op mk) (rq_co le li we) (fun f => wd (16 * f + g)) e n b l → b ≤ 16 ∧ l ≤ 401211 ∧ (b ≠ 0 → 0 < l) := by
    intro n b l hn k
    have := ry_FnB (rq_hco hE) (B := 400000) (fun i hi => hB i (by omega)) k
    rcases k with ⟨k1, k2, _⟩ | ⟨f, k1, k2, k3, k4, k5, _⟩
    · omega
    · have : 0 < wd (16 * f + g) := k4
      omega
  refine loop_0 (fun n i (s : Nat × Nat) => wX_findNext_10 post (nI e) (nI g) (nI tn) (rn_A ln) (rn_A fm) (rn_A tt) (rn_A le) (rn_A li) (rn_A rk) (rn_A we) (rn_A op) (rn_A ca) (rn_A mk) (rn_B wd) (rn_B wn) (rn_A pc) (rn_A ph) (rn_A pa) (rn_A pe) (rn_A pt) (rn_A tp) (rn_A ac) (rn_A sz) (rn_A dw) (rn_A st) (rn_A ty) (rn_A ed) (rn_B ps) (rn_A fr) (rn_A sp) (rn_A go) (rn_A nz) (rn_B pg) (rn_B cf) (rn_B ct) (rn_A tk) (rn_A en) (rn_B ch) (rn_A nw) (rn_A tl) n (rn_c s.1) (rn_c s.2) (nI i)) (fun i s => ry_Fn (rq_K ln fm tt op mk) (rq_co le li we) (fun f => wd (16 * f + g)) e i s.1 s.2) 16 (0, 0) ry_Fn0 ?_ ?_
  · intro n s k
    obtain ⟨b1, b2, b3⟩ := bd (Nat.le_refl _) k
    have V := hB e he
    have hp := H s.1 s.2 k
    refine br_t (by decide) ?_
    rw [ix]
    refine ⟨vp_in_nI (by omega) (by omega), ek_f (rn_2 (rn_rB (by omega)) rfl (by omega) (by omega)) (fun q => ?_) (fun q => ?_)⟩
    · rw [rb_f (fun w => w q)] at hp
      unfold wX_findNext_116
      rw [ix]
      exact ⟨vp_in_nI (by omega) (by omega), nm_r (rn_uB (by omega)) ⟨vp_in_nI (by omega) (by omega), nm_r (rn_uB (by omega)) ⟨rfl, hp⟩⟩⟩
    · rw [rb_t q] at hp
      unfold wX_findNext_116
      rw [ix]
      exact ⟨vp_in_nI (by omega) (by omega), nm_r (rn_uB (by omega)) ⟨vp_in_nI (by omega) (by omega), nm_r (rn_uB (by omega)) ⟨rfl, hp⟩⟩⟩
  · intro n i s hi k ih
    obtain ⟨b1, b2, b3⟩ := bd (by omega) k
    have V := hB i hi
    have A := hE.1 i
    refine br_f (nI_ge (b := 16) hi (by decide)) ?_
    rw [ix]
    refine ⟨vp_in_nI (by omega) (by omega), nm_r (rn_rB (by omega)) ?_⟩
    refine ek_f (rn_c2 (by omega)) (fun q => nm_r (nI_1 i) (ih s (ry_FnN k (fun w => by have : 0 < wd (16 * i + g) := w.2.1; omega)))) (fun q => ⟨pk_in i 16 hi, ?_⟩)
    refine ek_f (rn_e (rn_rA (by omega)) (b := 0) rfl (by omega) (by omega)) (fun q2 => nm_r (nI_1 i) (ih s (ry_FnN k (fun w => by have := w.1.2.1; omega)))) (fun q2 => ?_)
    refine rx_el _ rfl rfl hE he hi (rb_b (fun q3 => nm_r (nI_1 i) (ih s (ry_FnN k (fun w => q3 w.1.2.2)))) (fun q3 => ?_))
    have hK : (rq_K ln fm tt op mk) e i := ⟨hte, by omega, q3⟩
    have hli := (rq_Kf hK).1
    have hco := rq_coB hE hli
    refine rx_co _ rfl hE hi hli (nm_r (e' := rn_c ((rq_co le li we) i + wd (16 * i + g))) (by rw [rn_cs (by omega), rn_cs (by omega), nI_add]; congr 1; omega) ?_)
    refine ek_f (rn_c2 (by omega)) (fun q4 => nm_r (nI_1 i) (ih (i + 1, (rq_co le li we) i + wd (16 * i + g)) (ry_FnS k hK (by show 0 < wd (16 * i + g); omega) (Or.inl q4)))) (fun q4 => ?_)
    have l0 := b3 q4
    refine pk_le (s.2 - 1) ((rq_co le li we) i + wd (16 * i + g) - 1) (fun q5 => nm_r (nI_1 i) (ih s (ry_FnN k (fun w => ?_)))) (fun q5 => nm_r (nI_1 i) (ih (i + 1, (rq_co le li we) i + wd (16 * i + g)) (ry_FnS k hK (by show 0 < wd (16 * i + g); omega) (Or.inr ?_)))) (rn_cs l0) (rn_cs (by omega))
    · have : s.1 = 0 ∨ (rq_co le li we) i + wd (16 * i + g) < s.2 := w.2.2
      omega
    · show (rq_co le li we) i + wd (16 * i + g) < s.2
      omega
theorem rx_f81 (post : SX → Prop) {J : Int32 → Int32 → Int32 → (Nat → Int32) → (Nat → Int32) → (Nat → Int32) → (Nat → Int32) → (Nat → Int32) → (Nat → Int32) → (Nat → Int32) → (Nat → Int32) → (Nat → Int32) → (Nat → Int32) → (Nat → Int32) → (Nat → Int32) → (Nat → Int32) → (Nat → Int32) → (Nat → Int32) → (Nat → Int32) → (Nat → Int32) → (Nat → Int32) → (Nat → Int32) → (Nat → Int32) → (Nat → Int32) → (Nat → Int32) → (Nat → Int32) → (Nat → Int32) → (Nat → Int32) → (Nat → Int32) → (Nat → Int32) → (Nat → Int32) → (Nat → Int32) → (Nat → Int32) → (Nat → Int32) → (Nat → Int32) → (Nat → Int32) → (Nat → Int32) → (Nat → Int32) → (Nat → Int32) → (Nat → Int32) → Prop} {g r : Nat} {T δ0 wd0 wn0 : Nat → Nat} (hE : (rq_E ln fm tt le li rk we op mk)) (hg : g < 16) (hr : r < 16) (htg : 0 < ln g) (hT : ry_Bel (rq_K ln fm tt op mk) (rq_co le li we) g (0 < ln g) T)
    (H : ∀ b wd wn, b ≤ 1 → ry_RI (fun e => 0 < ln e) (rq_K ln fm tt op mk) (rq_co le li we) g T r 16 (fun f => wd (16 * f + g)) δ0 (fun f => wn (16 * f + g)) b → (∀ k, k % 16 ≠ g → wd k = wd0 k ∧ wn k = wn0 k) → J (nI b) (nI (r + 1)) (nI tn) (rn_A ln) (rn_A fm) (rn_A tt) (rn_A le) (rn_A li) (rn_A rk) (rn_A we) (rn_A op) (rn_A ca) (rn_A mk) (rn_B wd) (rn_B wn) (rn_A pc) (rn_A ph) (rn_A pa) (rn_A pe) (rn_A pt) (rn_A tp) (rn_A ac) (rn_A sz) (rn_A dw) (rn_A st) (rn_A ty) (rn_A ed) (rn_B ps) (rn_A fr) (rn_A sp) (rn_A go) (rn_A nz) (rn_B pg) (rn_B cf) (rn_B ct) (rn_A tk) (rn_A en) (rn_B ch) (rn_A nw) (rn_A tl)) :
    ∀ n e b wd wn, e ≤ 16 → 16 - e < n → b ≤ 1 → ry_RI (fun e => 0 < ln e) (rq_K ln fm tt op mk) (rq_co le li we) g T r e (fun f => wd (16 * f + g)) δ0 (fun f => wn (16 * f + g)) b → (∀ k, k % 16 ≠ g → wd k = wd0 k ∧ wn k = wn0 k) → wX_findWaysTo_81 post J (nI g) (nI r) n (nI b) (nI e) (nI tn) (rn_A ln) (rn_A fm) (rn_A tt) (rn_A le) (rn_A li) (rn_A rk) (rn_A we) (rn_A op) (rn_A ca) (rn_A mk) (rn_B wd) (rn_B wn) (rn_A pc) (rn_A ph) (rn_A pa) (rn_A pe) (rn_A pt) (rn_A tp) (rn_A ac) (rn_A sz) (rn_A dw) (rn_A st) (rn_A ty) (rn_A ed) (rn_B ps) (rn_A fr) (rn_A sp) (rn_A go) (rn_A nz) (rn_B pg) (rn_B cf) (rn_B ct) (rn_A tk) (rn_A en) (rn_B ch) (rn_A nw) (rn_A tl) := by
  intro n
  induction n with
  | zero => intro e b wd wn h1 h2; omega
  | succ n ih =>
    intro e b wd wn he hen hb hR hO
    refine pk_le 16 e (fun z => nm_r (nI_1 r) (H b wd wn hb (by rw [show e = 16 by omega] at hR; exact hR) hO)) (fun z => ?_)
    have hKt : ∀ e f, (rq_K ln fm tt op mk) e f → 0 < ln e := fun _ _ h => h.1
    have A := hE.1 e
    refine ek_f (rn_e rfl rfl (by omega) (by omega)) (fun q => nm_r (nI_1 e) (ih (e + 1) b wd wn (by omega) (by omega) hb (ry_RIk hKt hT htg (Or.inl q) hR) hO)) (fun q => ⟨pk_in e 16 z, ?_⟩)
    refine pk_le (ln e) 0 (fun q2 => nm_r (nI_1 e) (ih (e + 1) b wd wn (by omega) (by omega) hb (ry_RIk hKt hT htg (Or.inr (by show ¬ 0 < ln e; omega)) hR) hO)) (fun q2 => ?_) (rn_rA (by omega))
    refine rx_fn _ rfl rfl hE z hg q2 (fun f hf => by have : wd (16 * f + g) ≤ 1 + 1211 * (16 * r + e) := hR.2.2.2.1 f hf; omega) (fun bb l hF => ?_)
    have R1 := ry_RIs (th := fun e => 0 < ln e) (rq_hc hE) (rq_hco hE) hT hr z q q2 hR hF
    rw [← ry_col, ← ry_col] at R1
    have O1 : ∀ k, k % 16 ≠ g → ru_p wd (16 * e + g) l k = wd0 k ∧ ru_p wn (16 * e + g) bb k = wn0 k := by
      intro k hk
      rw [ru_n (by omega), ru_n (by omega)]
      exact hO k hk
    refine rb_b (fun q3 => nm_r (nI_1 e) (ih (e + 1) b _ _ (by omega) (by omega) hb ?_ O1)) (fun q3 => nm_r (nI_1 e) (ih (e + 1) 1 _ _ (by omega) (by omega) (by omega) ?_ O1))
    · rw [if_pos (Classical.not_not.mp q3)] at R1; exact R1
    · rw [if_neg q3] at R1; exact R1
theorem rx_f66 (post : SX → Prop) {g : Nat} {T wd0 wn0 : Nat → Nat} (hE : (rq_E ln fm tt le li rk we op mk)) (hg : g < 16) (htg : 0 < ln g) (hT : ry_Bel (rq_K ln fm tt op mk) (rq_co le li we) g (0 < ln g) T)
    (H : ∀ wd wn, rq_W1 ln fm tt le li we op mk wd wn g → (∀ k, k % 16 ≠ g → wd k = wd0 k ∧ wn k = wn0 k) → post (nI tn, rn_A ln, rn_A fm, rn_A tt, rn_A le, rn_A li, rn_A rk, rn_A we, rn_A op, rn_A ca, rn_A mk, rn_B wd, rn_B wn, rn_A pc, rn_A ph, rn_A pa, rn_A pe, rn_A pt, rn_A tp, rn_A ac, rn_A sz, rn_A dw, rn_A st, rn_A ty, rn_A ed, rn_B ps, rn_A fr, rn_A sp, rn_A go, rn_A nz, rn_B pg, rn_B cf, rn_B ct, rn_A tk, rn_A en, rn_B ch, rn_A nw, rn_A tl)) :
    ∀ n r wd wn, r < 16 → 16 - r < n → ry_RI (fun e => 0 < ln e) (rq_K ln fm tt op mk) (rq_co le li we) g T r 0 (fun f => wd (16 * f + g)) (fun f => wd (16 * f + g)) (fun f => wn (16 * f + g)) 0 → (∀ k, k % 16 ≠ g → wd k = wd0 k ∧ wn k = wn0 k) → wX_findWaysTo_66 post (nI g) n 1 (nI r) (nI tn) (rn_A ln) (rn_A fm) (rn_A tt) (rn_A le) (rn_A li) (rn_A rk) (rn_A we) (rn_A op) (rn_A ca) (rn_A mk) (rn_B wd) (rn_B wn) (rn_A pc) (rn_A ph) (rn_A pa) (rn_A pe) (rn_A pt) (rn_A tp) (rn_A ac) (rn_A sz) (rn_A dw) (rn_A st) (rn_A ty) (rn_A ed) (rn_B ps) (rn_A fr) (rn_A sp) (rn_A go) (rn_A nz) (rn_B pg) (rn_B cf) (rn_B ct) (rn_A tk) (rn_A en) (rn_B ch) (rn_A nw) (rn_A tl) := by
  intro n
  induction n with
  | zero => intro r wd wn h1 h2; omega
  | succ n ih =>
    intro r wd wn hr hrn hR hO
    refine br_f (nI_ge (b := 16) hr (by decide)) (br_f (by decide) ⟨17, rx_f81 post hE hg hr htg hT (fun b wd' wn' hb hR' hO' => ?_) 17 0 0 wd wn (by omega) (by omega) (by omega) hR hO⟩)
    rcases Nat.eq_zero_or_pos b with q | q
    · subst q
      have fin : post (nI tn, rn_A ln, rn_A fm, rn_A tt, rn_A le, rn_A li, rn_A rk, rn_A we, rn_A op, rn_A ca, rn_A mk, rn_B wd', rn_B wn', rn_A pc, rn_A ph, rn_A pa, rn_A pe, rn_A pt, rn_A tp, rn_A ac, rn_A sz, rn_A dw, rn_A st, rn_A ty, rn_A ed, rn_B ps, rn_A fr, rn_A sp, rn_A go, rn_A nz, rn_B pg, rn_B cf, rn_B ct, rn_A tk, rn_A en, rn_B ch, rn_A nw, rn_A tl) := by
        refine H wd' wn' (rq_W1f hg (fun e he => ?_) hR'.2.2.2.2.2.2.1 (ry_RIe (fun _ _ h => h.1) hg htg hr hR')) hO'
        have : wd' (16 * e + g) ≤ 1 + 1211 * (16 * r + 16) := hR'.2.2.2.1 e he
        omega
      obtain ⟨m, rfl⟩ : ∃ m, n = m + 1 := ⟨n - 1, by omega⟩
      exact br_c (fun _ => fin) (fun _ => br_t rfl fin)
    · have b1 : b = 1 := by omega
      subst b1
      obtain ⟨r1, r2⟩ := ry_RIn (by omega) hr hR'
      exact ih (r + 1) wd' wn' r1 (by omega) r2 hO'
theorem rx_f2 (post : SX → Prop) {g : Nat} {wd0 wn0 : Nat → Nat} (hE : (rq_E ln fm tt le li rk we op mk)) (hg : g < 16)
    (H : ∀ wd wn, rq_W1 ln fm tt le li we op mk wd wn g → (∀ k, k % 16 ≠ g → wd k = wd0 k ∧ wn k = wn0 k) → post (nI tn, rn_A ln, rn_A fm, rn_A tt, rn_A le, rn_A li, rn_A rk, rn_A we, rn_A op, rn_A ca, rn_A mk, rn_B wd, rn_B wn, rn_A pc, rn_A ph, rn_A pa, rn_A pe, rn_A pt, rn_A tp, rn_A ac, rn_A sz, rn_A dw, rn_A st, rn_A ty, rn_A ed, rn_B ps, rn_A fr, rn_A sp, rn_A go, rn_A nz, rn_B pg, rn_B cf, rn_B ct, rn_A tk, rn_A en, rn_B ch, rn_A nw, rn_A tl)) :
    ∀ n e wd wn, e ≤ 16 → 16 - e < n → (∀ i, i < e → wd (16 * i + g) = 0 ∧ wn (16 * i + g) = 0) → (∀ k, k % 16 ≠ g → wd k = wd0 k ∧ wn k = wn0 k) → wX_findWaysTo_2 post (nI g) (nI tn) n (nI e) (rn_A ln) (rn_A fm) (rn_A tt) (rn_A le) (rn_A li) (rn_A rk) (rn_A we) (rn_A op) (rn_A ca) (rn_A mk) (rn_B wd) (rn_B wn) (rn_A pc) (rn_A ph) (rn_A pa) (rn_A pe) (rn_A pt) (rn_A tp) (rn_A ac) (rn_A sz) (rn_A dw) (rn_A st) (rn_A ty) (rn_A ed) (rn_B ps) (rn_A fr) (rn_A sp) (rn_A go) (rn_A nz) (rn_B pg) (rn_B cf) (rn_B ct) (rn_A tk) (rn_A en) (rn_B ch) (rn_A nw) (rn_A tl) := by
  intro n
  induction n with
  | zero => intro e wd wn h1 h2; omega
  | succ n ih =>
    intro e wd wn he hen h0 hO
    have ix : ∀ i, (16 : Int32) * nI i + nI g = nI (16 * i + g) := fun i => by rw [show (16 : Int32) * nI i = nI (16 * i) from pk_mul 16 _, nI_add]
    have A := hE.1 g
    refine pk_le 16 e (fun z => ⟨pk_in g 16 hg, ek_f (rn_e (rn_rA (by omega)) (b := 0) rfl (by omega) (by omega)) (fun q => ?_) (fun q => ?_)⟩) (fun z => ?_)
    · refine H wd wn (rq_W1f hg (fun i hi => by have := (h0 i (by omega)).1; omega) (h0 g (by omega)).2 ?_) hO
      exact ry_fix (fun i hi => by have := (h0 i (by omega)).1; show wd (16 * i + g) ≤ 1000000; omega) hg (fun w => by omega) (fun _ => (h0 g (by omega)).1) (fun i hi hn => by
        show ry_Fn (rq_K ln fm tt op mk) (rq_co le li we) (fun f => wd (16 * f + g)) i 16 (wn (16 * i + g)) (wd (16 * i + g))
        rw [(h0 i (by omega)).1, (h0 i (by omega)).2]
        exact Or.inl ⟨rfl, rfl, fun f hf _ => (h0 f (by omega)).1⟩)
    · have q0 : 0 < ln g := by omega
      obtain ⟨T, hT⟩ := ry_exist (rq_K ln fm tt op mk) (rq_co le li we) g (0 < ln g)
      rw [ix]
      refine ⟨vp_in_nI (by omega) (by omega), nm_r (rn_uB (x := 1) (by omega)) ⟨17, rx_f66 post hE hg q0 hT H 17 0 _ wn (by omega) (by omega) ?_ (fun k hk => by rw [ru_n (by omega)]; exact hO k hk)⟩⟩
      refine ry_RI0 (th := fun e => 0 < ln e) (rq_hc hE) q0 hT q0 hg (fun i hi => ?_) (fun i hi => (h0 i (by omega)).2)
      show ru_p wd (16 * g + g) 1 (16 * i + g) = _
      by_cases w : i = g
      · subst w; rw [ru_s, if_pos rfl]
      · rw [ru_n (by omega), if_neg w]; exact (h0 i (by omega)).1
    · rw [ix]
      refine ⟨vp_in_nI (by omega) (by omega), nm_r (rn_uB (x := 0) (by omega)) ⟨vp_in_nI (by omega) (by omega), nm_r (rn_uB (x := 0) (by omega)) (nm_r (nI_1 e) ?_)⟩⟩
      refine ih (e + 1) _ _ (by omega) (by omega) (fun i hi => ?_) (fun k hk => ?_)
      · rcases Nat.decEq i e with q | q
        · rw [ru_n (by omega), ru_n (by omega)]; exact h0 i (by omega)
        · subst q; rw [ru_s, ru_s]; exact ⟨rfl, rfl⟩
      · rw [ru_n (by omega), ru_n (by omega)]; exact hO k hk
theorem rx_fwt (post : SX → Prop) {g : Nat} {x : Int32} (hx : x = nI g) (hE : (rq_E ln fm tt le li rk we op mk)) (hg : g < 16)
    (H : ∀ wd' wn', rq_W1 ln fm tt le li we op mk wd' wn' g → (∀ k, k % 16 ≠ g → wd' k = wd k ∧ wn' k = wn k) → post (nI tn, rn_A ln, rn_A fm, rn_A tt, rn_A le, rn_A li, rn_A rk, rn_A we, rn_A op, rn_A ca, rn_A mk, rn_B wd', rn_B wn', rn_A pc, rn_A ph, rn_A pa, rn_A pe, rn_A pt, rn_A tp, rn_A ac, rn_A sz, rn_A dw, rn_A st, rn_A ty, rn_A ed, rn_B ps, rn_A fr, rn_A sp, rn_A go, rn_A nz, rn_B pg, rn_B cf, rn_B ct, rn_A tk, rn_A en, rn_B ch, rn_A nw, rn_A tl)) : wpX_findWaysTo post (nI tn, rn_A ln, rn_A fm, rn_A tt, rn_A le, rn_A li, rn_A rk, rn_A we, rn_A op, rn_A ca, rn_A mk, rn_B wd, rn_B wn, rn_A pc, rn_A ph, rn_A pa, rn_A pe, rn_A pt, rn_A tp, rn_A ac, rn_A sz, rn_A dw, rn_A st, rn_A ty, rn_A ed, rn_B ps, rn_A fr, rn_A sp, rn_A go, rn_A nz, rn_B pg, rn_B cf, rn_B ct, rn_A tk, rn_A en, rn_B ch, rn_A nw, rn_A tl) x := by
  subst hx
  exact ⟨17, rx_f2 post hE hg H 17 0 wd wn (by omega) (by omega) (fun i hi => absurd hi (Nat.not_lt_zero i)) (fun k _ => ⟨rfl, rfl⟩)⟩
theorem rx_ways (post : SX → Prop) (hE : (rq_E ln fm tt le li rk we op mk)) (H : ∀ wd wn, (rq_WX ln fm tt le li we op mk wd wn) → post (nI tn, rn_A ln, rn_A fm, rn_A tt, rn_A le, rn_A li, rn_A rk, rn_A we, rn_A op, rn_A ca, rn_A mk, rn_B wd, rn_B wn, rn_A pc, rn_A ph, rn_A pa, rn_A pe, rn_A pt, rn_A tp, rn_A ac, rn_A sz, rn_A dw, rn_A st, rn_A ty, rn_A ed, rn_B ps, rn_A fr, rn_A sp, rn_A go, rn_A nz, rn_B pg, rn_B cf, rn_B ct, rn_A tk, rn_A en, rn_B ch, rn_A nw, rn_A tl)) : wpX_findWays post (nI tn, rn_A ln, rn_A fm, rn_A tt, rn_A le, rn_A li, rn_A rk, rn_A we, rn_A op, rn_A ca, rn_A mk, rn_B wd, rn_B wn, rn_A pc, rn_A ph, rn_A pa, rn_A pe, rn_A pt, rn_A tp, rn_A ac, rn_A sz, rn_A dw, rn_A st, rn_A ty, rn_A ed, rn_B ps, rn_A fr, rn_A sp, rn_A go, rn_A nz, rn_B pg, rn_B cf, rn_B ct, rn_A tk, rn_A en, rn_B ch, rn_A nw, rn_A tl) := by
  refine loop_0 (fun n i (s : (Nat → Nat) × (Nat → Nat)) => wX_findWays_2 post n (nI i) (nI tn) (rn_A ln) (rn_A fm) (rn_A tt) (rn_A le) (rn_A li) (rn_A rk) (rn_A we) (rn_A op) (rn_A ca) (rn_A mk) (rn_B s.1) (rn_B s.2) (rn_A pc) (rn_A ph) (rn_A pa) (rn_A pe) (rn_A pt) (rn_A tp) (rn_A ac) (rn_A sz) (rn_A dw) (rn_A st) (rn_A ty) (rn_A ed) (rn_B ps) (rn_A fr) (rn_A sp) (rn_A go) (rn_A nz) (rn_B pg) (rn_B cf) (rn_B ct) (rn_A tk) (rn_A en) (rn_B ch) (rn_A nw) (rn_A tl)) (fun i s => ∀ g, g < i → g < 16 → rq_W1 ln fm tt le li we op mk s.1 s.2 g) 16 (wd, wn) (fun g hg => absurd hg (Nat.not_lt_zero g)) ?_ ?_
  · intro n s k
    exact br_t (by decide) (H s.1 s.2 (fun g hg => k g hg hg))
  · intro n i s hi k ih
    refine br_f (nI_ge (b := 16) hi (by decide)) (rx_fwt _ rfl hE hi (fun wd' wn' h1 h2 => nm_r (nI_1 i) (ih (wd', wn') (fun g hg hg6 => ?_))))
    rcases Nat.decEq g i with q | q
    · exact rq_W1o q hi hg6 (k g (by omega) hg6) h2
    · subst q; exact h1
end
end
section
/-! LANES: may, wants, room, X and Y -/
theorem rn_x1 : ∀ s, s < 32 → nI s ^^^ 1 = nI (rq_ot (s + 1) - 1) := by decide +kernel
section
variable {ln fm tt le li rk we op ca mk wd wn fa pc ph pa pe pt se ls mo tp ac sz dw st ty ed fr sp go nz tk en ch nw ps pg cf ct la gr cr ne nl oe ol fl tl : Nat → Nat} {tn kn N : Nat} {th : Int32} {gp fs : Nat → Int32}
/-- what stands nearest on a lane -/
theorem rI_nr (I : (rq_L ln fm tt le li rk we op mk wd wn pc ph pa pe pt se ls mo tp ac sz dw st ty ed fr sp go tk en ch ps pg cf ct la gr cr ne nl oe ol fl tl tn N)) (e l p : Nat) (hl : l ≤ 1) : (rd_nr ps fr) (2 * e + l + 1) p 32 ≤ 32 ∧ (0 < (rd_nr ps fr) (2 * e + l + 1) p 32 → (rd_nr ps fr) (2 * e + l + 1) p 32 - 1 < 32 ∧ st ((rd_nr ps fr) (2 * e + l + 1) p 32 - 1) = 2 ∧ ed ((rd_nr ps fr) (2 * e + l + 1) p 32 - 1) = e ∧ la ((rd_nr ps fr) (2 * e + l + 1) p 32 - 1) = l ∧ p < fr ((rd_nr ps fr) (2 * e + l + 1) p 32 - 1)) := by
  refine ⟨rd_nrL 32, fun h => ?_⟩
  rcases rd_nrS (ps := ps) (fr := fr) (s := 2 * e + l + 1) (p := p) 32 with ⟨k1, _⟩ | ⟨a, k1, k2, k3, k4, _⟩
  · omega
  · rw [k1]
    obtain ⟨a1, a2, a3⟩ := (rq_onI (rI_on I) k2 hl).mpr k3
    exact ⟨k2, a1, a2, a3, k4⟩
theorem rI_nu (I : (rq_L ln fm tt le li rk we op mk wd wn pc ph pa pe pt se ls mo tp ac sz dw st ty ed fr sp go tk en ch ps pg cf ct la gr cr ne nl oe ol fl tl tn N)) (e l p : Nat) (hl : l ≤ 1) : (rd_nu ps fr) (2 * e + l + 1) p 32 ≤ 32 ∧ (0 < (rd_nu ps fr) (2 * e + l + 1) p 32 → (rd_nu ps fr) (2 * e + l + 1) p 32 - 1 < 32 ∧ st ((rd_nu ps fr) (2 * e + l + 1) p 32 - 1) = 2 ∧ ed ((rd_nu ps fr) (2 * e + l + 1) p 32 - 1) = e ∧ la ((rd_nu ps fr) (2 * e + l + 1) p 32 - 1) = l ∧ fr ((rd_nu ps fr) (2 * e + l + 1) p 32 - 1) ≤ p) := by
  refine ⟨rd_nuL 32, fun h => ?_⟩
  rcases rd_nuS (ps := ps) (fr := fr) (s := 2 * e + l + 1) (p := p) 32 with ⟨k1, _⟩ | ⟨a, k1, k2, k3, k4, _⟩
  · omega
  · rw [k1]
    obtain ⟨a1, a2, a3⟩ := (rq_onI (rI_on I) k2 hl).mpr k3
    exact ⟨k2, a1, a2, a3, k4⟩
/-- the last part of wants; n the own lane's nearest, m the other's -/
def rq_w2 (tp sz ty ed fr sp go : Nat → Nat) (Q : Prop) (n m c : Nat) : Prop := 0 < n ∧ sp (n - 1) < tp (ty c) ∧ fr (n - 1) < sz (ty (n - 1)) + 1 + fr c + 20 ∧ (m = 0 ∨ fr (n - 1) + sz (ty (m - 1)) + 10 ≤ fr (m - 1) + sz (ty (n - 1))) ∧ (Q ∨ go c = ed c)
theorem rq_wE {n o c : Nat} : (rq_wants ln fm tt mk tp ty ed fr sp go ps (fun x => sz (ty x))) n o c ↔ (0 < n ∧ (rq_ld ln fm tt mk) (o - 1) (n - 1) ∧ ¬ (rq_ld ln fm tt mk) (ps c - 1) (n - 1)) ∨ rq_w2 tp sz ty ed fr sp go (0 < n ∧ (rq_ld ln fm tt mk) (o - 1) (n - 1)) ((rd_nr ps fr) (ps c) (fr c) 32) ((rd_nr ps fr) o (fr c) 32) c := by
  constructor
  · rintro (h | ⟨a, a1, a2, a3, a4, a5⟩)
    · exact Or.inl h
    · right
      refine ⟨by omega, ?_⟩
      rw [a1]
      exact ⟨a2, a3, a4, a5⟩
  · rintro (h | ⟨a1, a2⟩)
    · exact Or.inl h
    · right
      refine ⟨(rd_nr ps fr) (ps c) (fr c) 32 - 1, by omega, a2⟩
theorem rx_w44 (post : Int32 → Prop) {c e l : Nat} {Q : Prop} (I : (rq_L ln fm tt le li rk we op mk wd wn pc ph pa pe pt se ls mo tp ac sz dw st ty ed fr sp go tk en ch ps pg cf ct la gr cr ne nl oe ol fl tl tn N)) (hc : c < 32) (he : ed c = e) (hl : l ≤ 1) (h : post (rb_ (rq_w2 tp sz ty ed fr sp go Q ((rd_nr ps fr) (2 * e + l + 1) (fr c) 32) ((rd_nr ps fr) (2 * e + (1 - l) + 1) (fr c) 32) c))) : wX_wantsToChange_44 post (nI c) (nI (2 * e + l)) (nI (2 * e + (1 - l))) (rb_ Q) (nI tn) (rn_A ln) (rn_A fm) (rn_A tt) (rn_A le) (rn_A li) (rn_A rk) (rn_A we) (rn_A op) (rn_A ca) (rn_A mk) (rn_B wd) (rn_B wn) (rn_A pc) (rn_A ph) (rn_A pa) (rn_A pe) (rn_A pt) (rn_A tp) (rn_A ac) (rn_A sz) (rn_A dw) (rn_A st) (rn_A ty) (rn_A ed) (rn_B ps) (rn_A fr) (rn_A sp) (rn_A go) (rn_A nz) (rn_B pg) (rn_B cf) (rn_B ct) (rn_A tk) (rn_A en) (rn_B ch) (rn_A nw) (rn_A tl) := by
  have A := rI_c I c
  have T := rI_y I c
  obtain ⟨n1, n2⟩ := rI_nr I e l (fr c) hl
  obtain ⟨m1, m2⟩ := rI_nr I e (1 - l) (fr c) (by omega)
  generalize hn : (rd_nr ps fr) (2 * e + l + 1) (fr c) 32 = n at *
  generalize hm : (rd_nr ps fr) (2 * e + (1 - l) + 1) (fr c) 32 = m at *
  refine ⟨pk_in c 32 hc, rx_nb _ rfl (rn_rA (by omega)) (by omega) (by omega) (rI_ps I) (rI_fr I) ?_⟩
  rw [hn]
  refine ek_f (rn_c2 (by omega)) (fun q => rb_p0 h (fun w => by have := w.1; omega)) (fun q => ?_)
  obtain ⟨a1, a2, a3, a4, a5⟩ := n2 (by omega)
  have B := rI_c I (n - 1)
  have S := rI_y I (n - 1)
  refine ⟨rn_ic (by omega) n1 (by omega), pk_in c 32 hc, rn_iA (by omega) A.2.1 (by omega), ?_⟩
  refine pk_lt (sp (n - 1)) (tp (ty c)) (fun q2 => ?_) (fun q2 => rb_p0 h (fun w => by have := w.2.1; omega)) (rn_Ac (by omega) (by omega)) (rn_AA (by omega) (by omega))
  refine rx_gp _ rfl (rn_cs (by omega)) I hc a1 (by rw [a3, he]) ⟨pk_in c 32 hc, rx_nb _ rfl (rn_rA (by omega)) (by omega) (by omega) (rI_ps I) (rI_fr I) ?_⟩
  rw [hm]
  have fin : ∀ z : Int, (m = 0 → z = 1000) → (0 < m → z = (fr (m - 1) : Int) - sz (ty (m - 1)) - 1 - fr c) → -100000 < z ∧ z < 100000 → wX_wantsToChange_129 post (nI c) (rb_ Q) (ri_z ((fr (n - 1) : Int) - sz (ty (n - 1)) - 1 - fr c)) (ri_z z) (nI tn) (rn_A ln) (rn_A fm) (rn_A tt) (rn_A le) (rn_A li) (rn_A rk) (rn_A we) (rn_A op) (rn_A ca) (rn_A mk) (rn_B wd) (rn_B wn) (rn_A pc) (rn_A ph) (rn_A pa) (rn_A pe) (rn_A pt) (rn_A tp) (rn_A ac) (rn_A sz) (rn_A dw) (rn_A st) (rn_A ty) (rn_A ed) (rn_B ps) (rn_A fr) (rn_A sp) (rn_A go) (rn_A nz) (rn_B pg) (rn_B cf) (rn_B ct) (rn_A tk) (rn_A en) (rn_B ch) (rn_A nw) (rn_A tl) := by
    intro z z0 z1 zb
    refine ek_f (ri_l (ri_n 20) rfl (by omega) (by omega)) (fun k => rb_p0 h (fun w => by have := w.2.2.1; omega)) (fun k => ?_)
    refine ek_f (ri_t rfl (b := (fr (n - 1) : Int) - sz (ty (n - 1)) - 1 - fr c + 10) (by rw [show (10 : Int32) = ri_z 10 from ri_n 10, ri_add]) (by omega) (by omega)) (fun k2 => rb_p0 h (fun w => by have := w.2.2.2.1; omega)) (fun k2 => ?_)
    have mm : m = 0 ∨ fr (n - 1) + sz (ty (m - 1)) + 10 ≤ fr (m - 1) + sz (ty (n - 1)) := by omega
    refine rb_b (fun q3 => ⟨pk_in c 32 hc, pk_in c 32 hc, ?_⟩) (fun q3 => rb_p1 h ⟨by omega, q2, by omega, mm, Or.inl q3⟩)
    exact ek_f (rn_e (rn_rA (by omega)) (rn_rA (by omega)) (by omega) (by omega)) (fun q4 => rb_p1 h ⟨by omega, q2, by omega, mm, Or.inr q4⟩) (fun q4 => rb_p0 h (fun w => w.2.2.2.2.elim q3 q4))
  refine ek_f (rn_c2 (by omega)) (fun q3 => fin 1000 (fun _ => rfl) (fun w => by omega) (by omega)) (fun q3 => ?_)
  obtain ⟨b1, b2, b3, b4, b5⟩ := m2 (by omega)
  have D := rI_c I (m - 1)
  have U := rI_y I (m - 1)
  exact rx_gp _ rfl (rn_cs (by omega)) I hc b1 (by rw [b3, he]) (fin _ (fun w => by omega) (fun _ => rfl) (by omega))
theorem rx_wa (post : Int32 → Prop) {c : Nat} {x : Int32} (hx : x = nI c) (I : (rq_L ln fm tt le li rk we op mk wd wn pc ph pa pe pt se ls mo tp ac sz dw st ty ed fr sp go tk en ch ps pg cf ct la gr cr ne nl oe ol fl tl tn N)) (hc : c < 32) (h2 : st c = 2) (h : post (rb_ ((rq_wants ln fm tt mk tp ty ed fr sp go ps (fun x => sz (ty x))) ((rq_nx wn ed go) c) (rq_ot (ps c)) c))) : wpX_wantsToChange post (nI tn, rn_A ln, rn_A fm, rn_A tt, rn_A le, rn_A li, rn_A rk, rn_A we, rn_A op, rn_A ca, rn_A mk, rn_B wd, rn_B wn, rn_A pc, rn_A ph, rn_A pa, rn_A pe, rn_A pt, rn_A tp, rn_A ac, rn_A sz, rn_A dw, rn_A st, rn_A ty, rn_A ed, rn_B ps, rn_A fr, rn_A sp, rn_A go, rn_A nz, rn_B pg, rn_B cf, rn_B ct, rn_A tk, rn_A en, rn_B ch, rn_A nw, rn_A tl) x := by
  subst hx
  have A := rI_c I c
  obtain ⟨p1, p2⟩ := (rI_p I hc).2.2.2.1 h2
  have hl : la c ≤ 1 := by omega
  have o1 : rq_ot (ps c) = 2 * ed c + (1 - la c) + 1 := by rw [p1]; exact rq_otE hl
  obtain ⟨x1, x2⟩ := rI_nx I c
  rw [rb_e rq_wE] at h
  have ex : rn_c (ps c) ^^^ 1 = nI (2 * ed c + (1 - la c)) := by
    rw [p1]
    show nI (2 * ed c + la c) ^^^ 1 = _
    rw [rn_x1 _ (by omega), rq_otE hl]
    rfl
  refine ⟨pk_in c 32 hc, nm_r (e' := nI (2 * ed c + la c)) (by rw [rn_rB (by omega), p1]; rfl) (nm_r (e' := nI (2 * ed c + (1 - la c))) (by rw [p1] at ex; exact ex) ?_)⟩
  refine rx_nx _ rfl hc (rI_ed I) (fun c => (rI_c I c).2.2.2.1) ?_
  refine rx_ld _ rfl rfl I.1 (by omega) x1 ?_
  have s1 : rq_ot (ps c) - 1 = 2 * ed c + (1 - la c) := by omega
  have s2 : ps c - 1 = 2 * ed c + la c := by omega
  rw [s1, s2, o1] at h
  rw [show (rd_nr ps fr) (ps c) (fr c) 32 = (rd_nr ps fr) (2 * ed c + la c + 1) (fr c) 32 by rw [p1]] at h
  refine rb_b (fun q => rx_w44 post (Q := 0 < (rq_nx wn ed go) c ∧ (rq_ld ln fm tt mk) (2 * ed c + (1 - la c)) ((rq_nx wn ed go) c - 1)) I hc rfl hl ?_) (fun q => ?_)
  · rw [rb_e (Q := (0 < (rq_nx wn ed go) c ∧ (rq_ld ln fm tt mk) (2 * ed c + (1 - la c)) ((rq_nx wn ed go) c - 1) ∧ ¬ (rq_ld ln fm tt mk) (2 * ed c + la c) ((rq_nx wn ed go) c - 1)) ∨ rq_w2 tp sz ty ed fr sp go (0 < (rq_nx wn ed go) c ∧ (rq_ld ln fm tt mk) (2 * ed c + (1 - la c)) ((rq_nx wn ed go) c - 1)) ((rd_nr ps fr) (2 * ed c + la c + 1) (fr c) 32) ((rd_nr ps fr) (2 * ed c + (1 - la c) + 1) (fr c) 32) c) ⟨Or.inr, fun w => w.elim (fun v => absurd ⟨v.1, v.2.1⟩ q) id⟩]
    exact h
  · refine rx_ld _ rfl rfl I.1 (by omega) x1 ?_
    refine rb_b (fun q2 => rb_p1 h (Or.inl ⟨q.1, q.2, fun w => q2 ⟨q.1, w⟩⟩)) (fun q2 => rx_w44 post (Q := 0 < (rq_nx wn ed go) c ∧ (rq_ld ln fm tt mk) (2 * ed c + (1 - la c)) ((rq_nx wn ed go) c - 1)) I hc rfl hl ?_)
    rw [rb_e (Q := (0 < (rq_nx wn ed go) c ∧ (rq_ld ln fm tt mk) (2 * ed c + (1 - la c)) ((rq_nx wn ed go) c - 1) ∧ ¬ (rq_ld ln fm tt mk) (2 * ed c + la c) ((rq_nx wn ed go) c - 1)) ∨ rq_w2 tp sz ty ed fr sp go (0 < (rq_nx wn ed go) c ∧ (rq_ld ln fm tt mk) (2 * ed c + (1 - la c)) ((rq_nx wn ed go) c - 1)) ((rd_nr ps fr) (2 * ed c + la c + 1) (fr c) 32) ((rd_nr ps fr) (2 * ed c + (1 - la c) + 1) (fr c) 32) c) ⟨Or.inr, fun w => w.elim (fun v => absurd q2.2 v.2.2) id⟩]
    exact h
/-- the last part of room -/
def rq_r2 (sz ty fr sp pg : Nat → Nat) (o m c : Nat) : Prop := (m = 0 → ¬ ∃ d, d < 32 ∧ pg d = o) ∧ (0 < m → pg (m - 1) = 0 ∧ rd_Fo (fr (m - 1)) (sp (m - 1)) (fr c) (sp c) (sz (ty c)))
theorem rq_rE {o c : Nat} : (rq_room fr sp ps pg (fun x => sz (ty x))) o c ↔ (0 < (rd_nr ps fr) o (fr c) 32 → rd_Fo (fr c) (sp c) (fr ((rd_nr ps fr) o (fr c) 32 - 1)) (sp ((rd_nr ps fr) o (fr c) 32 - 1)) (sz (ty ((rd_nr ps fr) o (fr c) 32 - 1)))) ∧ rq_r2 sz ty fr sp pg o ((rd_nu ps fr) o (fr c) 32) c := by
  constructor
  · rintro ⟨h1, h2, h3⟩
    exact ⟨fun w => h1 _ (by omega), fun w ⟨d, d1, d2⟩ => h2 w d d1 d2, fun w => h3 _ (by omega)⟩
  · rintro ⟨h1, h2, h3⟩
    refine ⟨fun a ha => ?_, fun w d d1 d2 => h2 w ⟨d, d1, d2⟩, fun b hb => ?_⟩
    · have := h1 (by omega)
      rw [ha] at this
      exact this
    · have := h3 (by omega)
      rw [hb] at this
      exact this
theorem rx_r57 (post : Int32 → Prop) {c e l : Nat} (I : (rq_L ln fm tt le li rk we op mk wd wn pc ph pa pe pt se ls mo tp ac sz dw st ty ed fr sp go tk en ch ps pg cf ct la gr cr ne nl oe ol fl tl tn N)) (hc : c < 32) (he : ed c = e) (hl : l ≤ 1) (he6 : e < 16) (h : post (rb_ (rq_r2 sz ty fr sp pg (2 * e + l + 1) ((rd_nu ps fr) (2 * e + l + 1) (fr c) 32) c))) : wX_hasRoomBeside_57 post (nI c) (nI (2 * e + l)) (nI tn) (rn_A ln) (rn_A fm) (rn_A tt) (rn_A le) (rn_A li) (rn_A rk) (rn_A we) (rn_A op) (rn_A ca) (rn_A mk) (rn_B wd) (rn_B wn) (rn_A pc) (rn_A ph) (rn_A pa) (rn_A pe) (rn_A pt) (rn_A tp) (rn_A ac) (rn_A sz) (rn_A dw) (rn_A st) (rn_A ty) (rn_A ed) (rn_B ps) (rn_A fr) (rn_A sp) (rn_A go) (rn_A nz) (rn_B pg) (rn_B cf) (rn_B ct) (rn_A tk) (rn_A en) (rn_B ch) (rn_A nw) (rn_A tl) := by
  have A := rI_c I c
  obtain ⟨n1, n2⟩ := rI_nu I e l (fr c) hl
  generalize hn : (rd_nu ps fr) (2 * e + l + 1) (fr c) 32 = n at *
  refine ⟨pk_in c 32 hc, rx_nu _ rfl (rn_rA (by omega)) (by omega) (by omega) (rI_ps I) (rI_fr I) ?_⟩
  rw [hn]
  refine ek_f (rn_c2 (by omega)) (fun q => rx_gt _ rfl (by omega) (rI_pg I) (rb_b (fun q2 => rb_p1 h ⟨fun _ => q2, fun w => by omega⟩) (fun q2 => rb_p0 h (fun w => w.1 q q2)))) (fun q => ?_)
  obtain ⟨a1, a2, a3, a4, a5⟩ := n2 (by omega)
  have B := rI_c I (n - 1)
  have S := rI_y I c
  have P := (rI_p I a1).2.1
  refine rx_gp _ (rn_cs (by omega)) rfl I a1 hc (by rw [a3, he]) ⟨rn_ic (by omega) n1 (by omega), ?_⟩
  refine ek_f (rn_2 (rn_Bc (by omega) (by omega)) (b := 0) rfl (by omega) (by omega)) (fun q2 => ⟨rn_ic (by omega) n1 (by omega), pk_in c 32 hc, ?_⟩) (fun q2 => rb_p0 h (fun w => q2 (w.2 (by omega)).1))
  rw [rn_Ac (by omega) (by omega), rn_rA (by omega)]
  refine rx_safe _ (by omega) (by omega) (by omega) ?_
  rw [rb_e rd_FoZ]
  exact rb_b (fun q3 => rb_p0 h (fun w => q3 (w.2 (by omega)).2)) (fun q3 => rb_p1 h ⟨fun w => by omega, fun _ => ⟨q2, q3⟩⟩)
theorem rx_rm (post : Int32 → Prop) {c : Nat} {x : Int32} (hx : x = nI c) (I : (rq_L ln fm tt le li rk we op mk wd wn pc ph pa pe pt se ls mo tp ac sz dw st ty ed fr sp go tk en ch ps pg cf ct la gr cr ne nl oe ol fl tl tn N)) (hc : c < 32) (h2 : st c = 2) (h : post (rb_ ((rq_room fr sp ps pg (fun x => sz (ty x))) (rq_ot (ps c)) c))) : wpX_hasRoomBeside post (nI tn, rn_A ln, rn_A fm, rn_A tt, rn_A le, rn_A li, rn_A rk, rn_A we, rn_A op, rn_A ca, rn_A mk, rn_B wd, rn_B wn, rn_A pc, rn_A ph, rn_A pa, rn_A pe, rn_A pt, rn_A tp, rn_A ac, rn_A sz, rn_A dw, rn_A st, rn_A ty, rn_A ed, rn_B ps, rn_A fr, rn_A sp, rn_A go, rn_A nz, rn_B pg, rn_B cf, rn_B ct, rn_A tk, rn_A en, rn_B ch, rn_A nw, rn_A tl) x := by
  subst hx
  have A := rI_c I c
  obtain ⟨p1, p2⟩ := (rI_p I hc).2.2.2.1 h2
  have hl : la c ≤ 1 := by omega
  have o1 : rq_ot (ps c) = 2 * ed c + (1 - la c) + 1 := by rw [p1]; exact rq_otE hl
  rw [rb_e rq_rE, o1] at h
  obtain ⟨m1, m2⟩ := rI_nr I (ed c) (1 - la c) (fr c) (by omega)
  refine ⟨pk_in c 32 hc, nm_r (e' := nI (2 * ed c + (1 - la c))) (by
    rw [rn_rB (by omega), p1]
    show nI (2 * ed c + la c) ^^^ 1 = _
    rw [rn_x1 _ (by omega), rq_otE hl]
    rfl) ⟨pk_in c 32 hc, rx_nb _ rfl (rn_rA (by omega)) (by omega) (by omega) (rI_ps I) (rI_fr I) ?_⟩⟩
  generalize hm : (rd_nr ps fr) (2 * ed c + (1 - la c) + 1) (fr c) 32 = m at *
  refine ek_f (rn_c2 (by omega)) (fun q => rx_r57 post I hc rfl (by omega) (by omega) ?_) (fun q => ?_)
  · rw [rb_e (Q := (0 < m → rd_Fo (fr c) (sp c) (fr (m - 1)) (sp (m - 1)) (sz (ty (m - 1)))) ∧ rq_r2 sz ty fr sp pg (2 * ed c + (1 - la c) + 1) ((rd_nu ps fr) (2 * ed c + (1 - la c) + 1) (fr c) 32) c) ⟨fun w => ⟨fun v => by omega, w⟩, fun w => w.2⟩]
    exact h
  · obtain ⟨b1, b2, b3, b4, b5⟩ := m2 (by omega)
    have D := rI_c I (m - 1)
    have U := rI_y I (m - 1)
    refine rx_gp _ rfl (rn_cs (by omega)) I hc b1 b3 ⟨pk_in c 32 hc, rn_ic (by omega) m1 (by omega), ?_⟩
    rw [rn_Ac (by omega) (by omega), rn_rA (by omega)]
    refine rx_safe _ (by omega) (by omega) (by omega) ?_
    rw [rb_e rd_FoZ]
    refine rb_b (fun q3 => rb_p0 h (fun w => q3 (w.1 (by omega)))) (fun q3 => rx_r57 post I hc rfl (by omega) (by omega) ?_)
    rw [rb_e (Q := (0 < m → rd_Fo (fr c) (sp c) (fr (m - 1)) (sp (m - 1)) (sz (ty (m - 1)))) ∧ rq_r2 sz ty fr sp pg (2 * ed c + (1 - la c) + 1) ((rd_nu ps fr) (2 * ed c + (1 - la c) + 1) (fr c) 32) c) ⟨fun w => ⟨fun _ => q3, w⟩, fun w => w.2⟩]
    exact h
/-! Y -/
theorem ry_w74' (post : Int32 → SY → Prop) {c e l : Nat} {Q : Prop} (I : (rq_L ln fm tt le li rk we op mk wd wn pc ph pa pe pt se ls mo tp ac sz dw st ty ed fr sp go tk en ch ps pg cf ct la gr cr ne nl oe ol fl tl tn N)) (hc : c < 32) (he : ed c = e) (hl : l ≤ 1) (h : post (rb_ (rq_w2 tp sz ty ed fr sp go Q ((rd_nr ps fr) (2 * e + l + 1) (fr c) 32) ((rd_nr ps fr) (2 * e + (1 - l) + 1) (fr c) 32) c)) (nI kn, nI tn, th, rn_T ln, rn_A op, rn_A fm, rn_A tt, rn_A le, rn_A ln, rn_A li, rn_A rk, rn_A we, rn_A ca, rn_A mk, rn_A fa, rn_A tp, rn_A ac, rn_A sz, rn_A dw, rn_A st, rn_A ty, rn_A ed, rn_A la, rn_A fr, rn_A sp, rn_A go, rn_A nz, rn_A tk, rn_C ch, rn_A en, rn_A nw, rn_A gr, rn_A cr, rn_A ne, rn_A nl, rn_A oe, rn_A ol, rn_A fl, rn_A pc, rn_A ph, rn_A pa, rn_A se, rn_A ls, rn_A mo, rn_A tl, gp, fs)) : wY_wants_74 post (nI c) (nI (1 - l)) (nI e) (rb_ Q) (nI kn) (nI tn) th (rn_T ln) (rn_A op) (rn_A fm) (rn_A tt) (rn_A le) (rn_A ln) (rn_A li) (rn_A rk) (rn_A we) (rn_A ca) (rn_A mk) (rn_A fa) (rn_A tp) (rn_A ac) (rn_A sz) (rn_A dw) (rn_A st) (rn_A ty) (rn_A ed) (rn_A la) (rn_A fr) (rn_A sp) (rn_A go) (rn_A nz) (rn_A tk) (rn_C ch) (rn_A en) (rn_A nw) (rn_A gr) (rn_A cr) (rn_A ne) (rn_A nl) (rn_A oe) (rn_A ol) (rn_A fl) (rn_A pc) (rn_A ph) (rn_A pa) (rn_A se) (rn_A ls) (rn_A mo) (rn_A tl) gp fs := by
  have A := rI_c I c
  have T := rI_y I c
  obtain ⟨n1, n2⟩ := rI_nr I e l (fr c) hl
  obtain ⟨m1, m2⟩ := rI_nr I e (1 - l) (fr c) (by omega)
  generalize hn : (rd_nr ps fr) (2 * e + l + 1) (fr c) 32 = n at *
  generalize hm : (rd_nr ps fr) (2 * e + (1 - l) + 1) (fr c) 32 = m at *
  have hT : ∀ c, ty c < 4 := fun c => (rI_c I c).2.1
  refine ⟨pk_in c 32 hc, ry_ab _ rfl (l := l) (by rw [show (1 : Int32) = nI 1 from rfl, pk_sub (by omega)]; congr 1; omega) (rn_rA (by omega)) (by omega) hl (by omega) (rI_on I) (rI_fr I) ?_⟩
  rw [hn]
  refine ek_f (rn_y0 (by omega)) (fun q => ?_) (fun q => rb_q0 h (fun w => q w.1))
  obtain ⟨a1, a2, a3, a4, a5⟩ := n2 q
  have B := rI_c I (n - 1)
  have S := rI_y I (n - 1)
  refine ry_gp _ rfl (rn_ys q) hT hc a1 ?_
  refine ek_f (ri_l (ri_n 20) rfl (by omega) (by omega)) (fun k => rb_q0 h (fun w => by have := w.2.2.1; omega)) (fun k => ⟨rn_iy q n1 (by omega), pk_in c 32 hc, rn_iA (by omega) A.2.1 (by omega), ?_⟩)
  refine pk_lt (sp (n - 1)) (tp (ty c)) (fun q2 => ⟨pk_in c 32 hc, ?_⟩) (fun q2 => rb_q0 h (fun w => by have := w.2.1; omega)) (rn_Ay q (by omega)) (rn_AA (by omega) (by omega))
  refine ry_ab _ rfl rfl (rn_rA (by omega)) (by omega) (by omega) (by omega) (rI_on I) (rI_fr I) ?_
  rw [hm]
  have fin : ∀ z : Int, (m = 0 → z = 1000) → (0 < m → z = (fr (m - 1) : Int) - sz (ty (m - 1)) - 1 - fr c) → -100000 < z ∧ z < 100000 → wY_wants_168 post (nI c) (nI e) (rb_ Q) (ri_z ((fr (n - 1) : Int) - sz (ty (n - 1)) - 1 - fr c)) (ri_z z) (nI kn) (nI tn) th (rn_T ln) (rn_A op) (rn_A fm) (rn_A tt) (rn_A le) (rn_A ln) (rn_A li) (rn_A rk) (rn_A we) (rn_A ca) (rn_A mk) (rn_A fa) (rn_A tp) (rn_A ac) (rn_A sz) (rn_A dw) (rn_A st) (rn_A ty) (rn_A ed) (rn_A la) (rn_A fr) (rn_A sp) (rn_A go) (rn_A nz) (rn_A tk) (rn_C ch) (rn_A en) (rn_A nw) (rn_A gr) (rn_A cr) (rn_A ne) (rn_A nl) (rn_A oe) (rn_A ol) (rn_A fl) (rn_A pc) (rn_A ph) (rn_A pa) (rn_A se) (rn_A ls) (rn_A mo) (rn_A tl) gp fs := by
    intro z z0 z1 zb
    refine ek_f (ri_t rfl (b := (fr (n - 1) : Int) - sz (ty (n - 1)) - 1 - fr c + 10) (by rw [show (10 : Int32) = ri_z 10 from ri_n 10, ri_add]) (by omega) (by omega)) (fun k2 => rb_q0 h (fun w => by have := w.2.2.2.1; omega)) (fun k2 => ⟨pk_in c 32 hc, ?_⟩)
    have mm : m = 0 ∨ fr (n - 1) + sz (ty (m - 1)) + 10 ≤ fr (m - 1) + sz (ty (n - 1)) := by omega
    refine ek_f (rn_e rfl (rn_rA (by omega)) (by omega) (by omega)) (fun q4 => rb_q1 h ⟨q, q2, by omega, mm, Or.inr (by omega)⟩) (fun q4 => ?_)
    exact rb_b (fun q3 => rb_q0 h (fun w => w.2.2.2.2.elim q3 (fun v => q4 (by omega)))) (fun q3 => rb_q1 h ⟨q, q2, by omega, mm, Or.inl q3⟩)
  refine ek_f (rn_y0 (by omega)) (fun q3 => ?_) (fun q3 => fin 1000 (fun _ => rfl) (fun w => absurd w q3) (by omega))
  obtain ⟨b1, b2, b3, b4, b5⟩ := m2 q3
  have D := rI_c I (m - 1)
  have U := rI_y I (m - 1)
  exact ry_gp _ rfl (rn_ys q3) hT hc b1 (fin _ (fun w => by omega) (fun _ => rfl) (by omega))
theorem ry_w35 (post : Int32 → SY → Prop) {c l n : Nat} {Q : Prop} (I : (rq_L ln fm tt le li rk we op mk wd wn pc ph pa pe pt se ls mo tp ac sz dw st ty ed fr sp go tk en ch ps pg cf ct la gr cr ne nl oe ol fl tl tn N)) (hc : c < 32) (hl : l ≤ 1) (hn : n ≤ 16) (h : post (rb_ ((Q ∧ ¬ (0 < n ∧ (rq_ld ln fm tt mk) (2 * ed c + l) (n - 1))) ∨ rq_w2 tp sz ty ed fr sp go Q ((rd_nr ps fr) (2 * ed c + l + 1) (fr c) 32) ((rd_nr ps fr) (2 * ed c + (1 - l) + 1) (fr c) 32) c)) (nI kn, nI tn, th, rn_T ln, rn_A op, rn_A fm, rn_A tt, rn_A le, rn_A ln, rn_A li, rn_A rk, rn_A we, rn_A ca, rn_A mk, rn_A fa, rn_A tp, rn_A ac, rn_A sz, rn_A dw, rn_A st, rn_A ty, rn_A ed, rn_A la, rn_A fr, rn_A sp, rn_A go, rn_A nz, rn_A tk, rn_C ch, rn_A en, rn_A nw, rn_A gr, rn_A cr, rn_A ne, rn_A nl, rn_A oe, rn_A ol, rn_A fl, rn_A pc, rn_A ph, rn_A pa, rn_A se, rn_A ls, rn_A mo, rn_A tl, gp, fs)) : wY_wants_35 post (nI c) (nI (1 - l)) (nI (ed c)) (rn_c n) (rb_ Q) (nI kn) (nI tn) th (rn_T ln) (rn_A op) (rn_A fm) (rn_A tt) (rn_A le) (rn_A ln) (rn_A li) (rn_A rk) (rn_A we) (rn_A ca) (rn_A mk) (rn_A fa) (rn_A tp) (rn_A ac) (rn_A sz) (rn_A dw) (rn_A st) (rn_A ty) (rn_A ed) (rn_A la) (rn_A fr) (rn_A sp) (rn_A go) (rn_A nz) (rn_A tk) (rn_C ch) (rn_A en) (rn_A nw) (rn_A gr) (rn_A cr) (rn_A ne) (rn_A nl) (rn_A oe) (rn_A ol) (rn_A fl) (rn_A pc) (rn_A ph) (rn_A pa) (rn_A se) (rn_A ls) (rn_A mo) (rn_A tl) gp fs := by
  have A := rI_c I c
  have s59 : ¬ (0 < n ∧ (rq_ld ln fm tt mk) (2 * ed c + l) (n - 1)) → wY_wants_59 post (nI c) (nI (1 - l)) (nI (ed c)) (rb_ Q) (nI kn) (nI tn) th (rn_T ln) (rn_A op) (rn_A fm) (rn_A tt) (rn_A le) (rn_A ln) (rn_A li) (rn_A rk) (rn_A we) (rn_A ca) (rn_A mk) (rn_A fa) (rn_A tp) (rn_A ac) (rn_A sz) (rn_A dw) (rn_A st) (rn_A ty) (rn_A ed) (rn_A la) (rn_A fr) (rn_A sp) (rn_A go) (rn_A nz) (rn_A tk) (rn_C ch) (rn_A en) (rn_A nw) (rn_A gr) (rn_A cr) (rn_A ne) (rn_A nl) (rn_A oe) (rn_A ol) (rn_A fl) (rn_A pc) (rn_A ph) (rn_A pa) (rn_A se) (rn_A ls) (rn_A mo) (rn_A tl) gp fs := by
    intro k
    refine rb_b (fun q => ry_w74' post I hc rfl hl ?_) (fun q => br_t rfl (rb_q1 h (Or.inl ⟨q, k⟩)))
    rw [rb_e (Q := (Q ∧ ¬ (0 < n ∧ (rq_ld ln fm tt mk) (2 * ed c + l) (n - 1))) ∨ rq_w2 tp sz ty ed fr sp go Q ((rd_nr ps fr) (2 * ed c + l + 1) (fr c) 32) ((rd_nr ps fr) (2 * ed c + (1 - l) + 1) (fr c) 32) c) ⟨Or.inr, fun w => w.elim (fun v => absurd v.1 q) id⟩]
    exact h
  refine ek_f (rn_cn (by omega)) (fun q => s59 (fun w => by omega)) (fun q => ?_)
  refine ry_ld _ rfl (l := l) (by rw [show (1 : Int32) = nI 1 from rfl, pk_sub (by omega)]; congr 1; omega) (rn_cs (by omega)) I.1 A.2.2.1 hl (by omega) ?_
  refine rb_b (fun q2 => s59 (fun w => q2 w.2)) (fun q2 => ?_)
  have r : rq_w2 tp sz ty ed fr sp go Q ((rd_nr ps fr) (2 * ed c + l + 1) (fr c) 32) ((rd_nr ps fr) (2 * ed c + (1 - l) + 1) (fr c) 32) c ↔ (Q ∧ ¬ (0 < n ∧ (rq_ld ln fm tt mk) (2 * ed c + l) (n - 1))) ∨ rq_w2 tp sz ty ed fr sp go Q ((rd_nr ps fr) (2 * ed c + l + 1) (fr c) 32) ((rd_nr ps fr) (2 * ed c + (1 - l) + 1) (fr c) 32) c := ⟨Or.inr, fun w => w.elim (fun v => absurd ⟨by omega, q2⟩ v.2) id⟩
  rw [← rb_e r] at h
  exact rb_b (fun _ => ry_w74' post I hc rfl hl h) (fun _ => br_f (by decide) (ry_w74' post I hc rfl hl h))
theorem ry_wa (post : Int32 → SY → Prop) {c : Nat} {x y : Int32} (hx : x = nI c) (hy : y = nI (1 - la c)) (I : (rq_L ln fm tt le li rk we op mk wd wn pc ph pa pe pt se ls mo tp ac sz dw st ty ed fr sp go tk en ch ps pg cf ct la gr cr ne nl oe ol fl tl tn N)) (hW : (rq_WY ln fm tt le li we op mk fa kn)) (hc : c < 32) (h2 : st c = 2) (H : ∀ kn fa, (rq_WY ln fm tt le li we op mk fa kn) → post (rb_ ((rq_wants ln fm tt mk tp ty ed fr sp go ps (fun x => sz (ty x))) ((rq_nx wn ed go) c) (rq_ot (ps c)) c)) (nI kn, nI tn, th, rn_T ln, rn_A op, rn_A fm, rn_A tt, rn_A le, rn_A ln, rn_A li, rn_A rk, rn_A we, rn_A ca, rn_A mk, rn_A fa, rn_A tp, rn_A ac, rn_A sz, rn_A dw, rn_A st, rn_A ty, rn_A ed, rn_A la, rn_A fr, rn_A sp, rn_A go, rn_A nz, rn_A tk, rn_C ch, rn_A en, rn_A nw, rn_A gr, rn_A cr, rn_A ne, rn_A nl, rn_A oe, rn_A ol, rn_A fl, rn_A pc, rn_A ph, rn_A pa, rn_A se, rn_A ls, rn_A mo, rn_A tl, gp, fs)) : wpY_wants post (nI kn, nI tn, th, rn_T ln, rn_A op, rn_A fm, rn_A tt, rn_A le, rn_A ln, rn_A li, rn_A rk, rn_A we, rn_A ca, rn_A mk, rn_A fa, rn_A tp, rn_A ac, rn_A sz, rn_A dw, rn_A st, rn_A ty, rn_A ed, rn_A la, rn_A fr, rn_A sp, rn_A go, rn_A nz, rn_A tk, rn_C ch, rn_A en, rn_A nw, rn_A gr, rn_A cr, rn_A ne, rn_A nl, rn_A oe, rn_A ol, rn_A fl, rn_A pc, rn_A ph, rn_A pa, rn_A se, rn_A ls, rn_A mo, rn_A tl, gp, fs) x y := by
  subst hx hy
  have A := rI_c I c
  obtain ⟨p1, p2⟩ := (rI_p I hc).2.2.2.1 h2
  have hl : la c ≤ 1 := by omega
  have o1 : rq_ot (ps c) = 2 * ed c + (1 - la c) + 1 := by rw [p1]; exact rq_otE hl
  obtain ⟨x1, x2⟩ := rI_nx I c
  refine ⟨pk_in c 32 hc, nm_r (rn_rA (by omega)) (ry_nxo _ rfl I hW hc (fun kn fa hW' => ?_))⟩
  have h := H kn fa hW'
  rw [rb_e rq_wE] at h
  have s1 : rq_ot (ps c) - 1 = 2 * ed c + (1 - la c) := by omega
  have s2 : ps c - 1 = 2 * ed c + la c := by omega
  rw [s1, s2, o1] at h
  rw [show (rd_nr ps fr) (ps c) (fr c) 32 = (rd_nr ps fr) (2 * ed c + la c + 1) (fr c) 32 by rw [p1]] at h
  have E2 : ∀ {Q : Prop}, (Q ↔ (0 < (rq_nx wn ed go) c ∧ (rq_ld ln fm tt mk) (2 * ed c + (1 - la c)) ((rq_nx wn ed go) c - 1))) → (((Q ∧ ¬ (0 < (rq_nx wn ed go) c ∧ (rq_ld ln fm tt mk) (2 * ed c + la c) ((rq_nx wn ed go) c - 1))) ∨ rq_w2 tp sz ty ed fr sp go Q ((rd_nr ps fr) (2 * ed c + la c + 1) (fr c) 32) ((rd_nr ps fr) (2 * ed c + (1 - la c) + 1) (fr c) 32) c) ↔ ((0 < (rq_nx wn ed go) c ∧ (rq_ld ln fm tt mk) (2 * ed c + (1 - la c)) ((rq_nx wn ed go) c - 1) ∧ ¬ (rq_ld ln fm tt mk) (2 * ed c + la c) ((rq_nx wn ed go) c - 1)) ∨ rq_w2 tp sz ty ed fr sp go (0 < (rq_nx wn ed go) c ∧ (rq_ld ln fm tt mk) (2 * ed c + (1 - la c)) ((rq_nx wn ed go) c - 1)) ((rd_nr ps fr) (2 * ed c + la c + 1) (fr c) 32) ((rd_nr ps fr) (2 * ed c + (1 - la c) + 1) (fr c) 32) c)) := by
    intro Q hQ
    rw [propext hQ]
    constructor
    · rintro (⟨a, b⟩ | a)
      · exact Or.inl ⟨a.1, a.2, fun w => b ⟨a.1, w⟩⟩
      · exact Or.inr a
    · rintro (⟨a, b, d⟩ | a)
      · exact Or.inl ⟨⟨a, b⟩, fun w => d w.2⟩
      · exact Or.inr a
  refine ek_f (rn_cn (by omega)) (fun q => ?_) (fun q => ?_)
  · have := ry_w35 (Q := False) post I hc hl x1 (by rw [rb_e (E2 ⟨False.elim, fun w => by omega⟩)]; exact h)
    rw [rb_f (fun w => w)] at this
    exact this
  · refine ry_ld _ rfl rfl (rn_cs (by omega)) I.1 A.2.2.1 (by omega) (by omega) (rb_b (fun q2 => ?_) (fun q2 => ?_))
    · have := ry_w35 (Q := False) post I hc hl x1 (by rw [rb_e (E2 ⟨False.elim, fun w => q2 w.2⟩)]; exact h)
      rw [rb_f (fun w => w)] at this
      exact this
    · have := ry_w35 (Q := True) post I hc hl x1 (by rw [rb_e (E2 ⟨fun _ => ⟨by omega, q2⟩, fun _ => trivial⟩)]; exact h)
      rw [rb_t trivial] at this
      exact this
theorem ry_m104 (post : Int32 → SY → Prop) {c e l : Nat} (I : (rq_L ln fm tt le li rk we op mk wd wn pc ph pa pe pt se ls mo tp ac sz dw st ty ed fr sp go tk en ch ps pg cf ct la gr cr ne nl oe ol fl tl tn N)) (hc : c < 32) (he : ed c = e) (he6 : e < 16) (hl : l ≤ 1) (ho : ps c ≠ 2 * e + l + 1) (h : post (rb_ (rq_r2 sz ty fr sp pg (2 * e + l + 1) ((rd_nu ps fr) (2 * e + l + 1) (fr c) 32) c)) (nI kn, nI tn, th, rn_T ln, rn_A op, rn_A fm, rn_A tt, rn_A le, rn_A ln, rn_A li, rn_A rk, rn_A we, rn_A ca, rn_A mk, rn_A fa, rn_A tp, rn_A ac, rn_A sz, rn_A dw, rn_A st, rn_A ty, rn_A ed, rn_A la, rn_A fr, rn_A sp, rn_A go, rn_A nz, rn_A tk, rn_C ch, rn_A en, rn_A nw, rn_A gr, rn_A cr, rn_A ne, rn_A nl, rn_A oe, rn_A ol, rn_A fl, rn_A pc, rn_A ph, rn_A pa, rn_A se, rn_A ls, rn_A mo, rn_A tl, gp, fs)) : wY_mayChange_104 post (nI c) (nI e) (nI l) (nI kn) (nI tn) th (rn_T ln) (rn_A op) (rn_A fm) (rn_A tt) (rn_A le) (rn_A ln) (rn_A li) (rn_A rk) (rn_A we) (rn_A ca) (rn_A mk) (rn_A fa) (rn_A tp) (rn_A ac) (rn_A sz) (rn_A dw) (rn_A st) (rn_A ty) (rn_A ed) (rn_A la) (rn_A fr) (rn_A sp) (rn_A go) (rn_A nz) (rn_A tk) (rn_C ch) (rn_A en) (rn_A nw) (rn_A gr) (rn_A cr) (rn_A ne) (rn_A nl) (rn_A oe) (rn_A ol) (rn_A fl) (rn_A pc) (rn_A ph) (rn_A pa) (rn_A se) (rn_A ls) (rn_A mo) (rn_A tl) gp fs := by
  have A := rI_c I c
  obtain ⟨n1, n2⟩ := rI_nu I e l (fr c) hl
  generalize hn : (rd_nu ps fr) (2 * e + l + 1) (fr c) 32 = n at *
  have hT : ∀ c, ty c < 4 := fun c => (rI_c I c).2.1
  refine ⟨pk_in c 32 hc, ry_nu _ rfl rfl (rn_rA (by omega)) (by omega) hl (by omega) (rI_on I) (rI_fr I) (fun i hi k => by rw [nI_eq (by omega) (by omega)] at k; subst k; exact ho) ?_⟩
  rw [hn]
  refine ek_f (rn_y0 (by omega)) (fun q => ⟨pk_in c 32 hc, ?_⟩) (fun q => ry_gt _ rfl rfl (by omega) hl (rI_gd I) (rb_b (fun q2 => rb_q1 h ⟨fun _ => q2, fun w => absurd w q⟩) (fun q2 => rb_q0 h (fun w => w.1 (by omega) q2))))
  obtain ⟨a1, a2, a3, a4, a5⟩ := n2 q
  have B := rI_c I (n - 1)
  have S := rI_y I c
  have P := rI_gd I (n - 1) a1
  refine ry_sz _ rfl hc hT ⟨rn_iy q n1 (by omega), nm_r (e' := ri_z ((fr c : Int) - sz (ty c) - 1 - fr (n - 1))) (by rw [rn_rA (by omega), rn_Ay q (by omega), ri_n, ri_n, ri_n, ri_sub, show (1 : Int32) = ri_z 1 from ri_n 1, ri_sub, ri_sub]) ⟨rn_iy q n1 (by omega), ?_⟩⟩
  refine ek_f (rn_e (rn_Ay q (by omega)) (b := 0) rfl (by omega) (by omega)) (fun q2 => ⟨rn_iy q n1 (by omega), pk_in c 32 hc, ?_⟩) (fun q2 => rb_q0 h (fun w => by have := (w.2 q).1; omega))
  rw [rn_Ay q (by omega), rn_rA (by omega)]
  refine ry_safe _ (by omega) (by omega) (by omega) ?_
  rw [rb_e rd_FoZ]
  exact rb_b (fun q3 => rb_q0 h (fun w => q3 (w.2 q).2)) (fun q3 => rb_q1 h ⟨fun w => by omega, fun _ => ⟨by omega, q3⟩⟩)
theorem ry_my (post : Int32 → SY → Prop) {c : Nat} {x : Int32} (hx : x = nI c) (I : (rq_L ln fm tt le li rk we op mk wd wn pc ph pa pe pt se ls mo tp ac sz dw st ty ed fr sp go tk en ch ps pg cf ct la gr cr ne nl oe ol fl tl tn N)) (hW : (rq_WY ln fm tt le li we op mk fa kn)) (hc : c < 32) (h2 : st c = 2) (H : ∀ kn fa, (rq_WY ln fm tt le li we op mk fa kn) → post (rb_ ((rq_may pg ch) N c ∧ (rq_wants ln fm tt mk tp ty ed fr sp go ps (fun x => sz (ty x))) ((rq_nx wn ed go) c) (rq_ot (ps c)) c ∧ (rq_room fr sp ps pg (fun x => sz (ty x))) (rq_ot (ps c)) c)) (nI kn, nI tn, th, rn_T ln, rn_A op, rn_A fm, rn_A tt, rn_A le, rn_A ln, rn_A li, rn_A rk, rn_A we, rn_A ca, rn_A mk, rn_A fa, rn_A tp, rn_A ac, rn_A sz, rn_A dw, rn_A st, rn_A ty, rn_A ed, rn_A la, rn_A fr, rn_A sp, rn_A go, rn_A nz, rn_A tk, rn_C ch, rn_A en, rn_A nw, rn_A gr, rn_A cr, rn_A ne, rn_A nl, rn_A oe, rn_A ol, rn_A fl, rn_A pc, rn_A ph, rn_A pa, rn_A se, rn_A ls, rn_A mo, rn_A tl, gp, fs)) : wpY_mayChange post (nI kn, nI tn, th, rn_T ln, rn_A op, rn_A fm, rn_A tt, rn_A le, rn_A ln, rn_A li, rn_A rk, rn_A we, rn_A ca, rn_A mk, rn_A fa, rn_A tp, rn_A ac, rn_A sz, rn_A dw, rn_A st, rn_A ty, rn_A ed, rn_A la, rn_A fr, rn_A sp, rn_A go, rn_A nz, rn_A tk, rn_C ch, rn_A en, rn_A nw, rn_A gr, rn_A cr, rn_A ne, rn_A nl, rn_A oe, rn_A ol, rn_A fl, rn_A pc, rn_A ph, rn_A pa, rn_A se, rn_A ls, rn_A mo, rn_A tl, gp, fs) x := by
  subst hx
  have A := rI_c I c
  obtain ⟨p1, p2⟩ := (rI_p I hc).2.2.2.1 h2
  have hl : la c ≤ 1 := by omega
  have o1 : rq_ot (ps c) = 2 * ed c + (1 - la c) + 1 := by rw [p1]; exact rq_otE hl
  have G := rI_gd I c hc
  have C := I.2.2.2.2.2
  have hT : ∀ c, ty c < 4 := fun c => (rI_c I c).2.1
  refine ⟨pk_in c 32 hc, nm_r (rn_rA (by omega)) ⟨pk_in c 32 hc, nm_r (e' := nI (1 - la c)) (by rw [rn_rA (by omega), show (1 : Int32) = nI 1 from rfl, pk_sub hl]) ⟨pk_in c 32 hc, ?_⟩⟩⟩
  refine ek_f (rn_e (rn_rA (by omega)) (b := 0) rfl (by omega) (by omega)) (fun q => ⟨pk_in c 32 hc, ?_⟩) (fun q => rb_q0 (H kn fa hW) (fun w => by have := w.1.1; omega))
  have v : rn_A tl 0 - rn_C ch (nI c).toNatClampNeg = ri_z ((N : Int) - (if ch c = 0 then -100 else (ch c : Int) - 1)) := by
    rw [rn_rC (by omega), rn_hz, show rn_A tl 0 = nI (tl 0) from rfl, C.1, ri_n, ri_sub]
  have pg0 : pg c = 0 := by omega
  refine ek_f (ri_t v (b := 5) (ri_n 5) (by split <;> omega) (by omega)) (fun q2 => rb_q0 (H kn fa hW) (fun w => ?_)) (fun q2 => ?_)
  · have := w.1.2
    split at q2 <;> omega
  · have may : (rq_may pg ch) N c := ⟨pg0, by split at q2 <;> omega⟩
    refine ry_wa _ rfl rfl I hW hc h2 (fun kn fa hW' => rb_b (fun q3 => rb_q0 (H kn fa hW') (fun w => q3 w.2.1)) (fun q3 => ⟨pk_in c 32 hc, ?_⟩))
    have h := H kn fa hW'
    rw [rb_e (Q := (rq_room fr sp ps pg (fun x => sz (ty x))) (rq_ot (ps c)) c) ⟨fun w => w.2.2, fun w => ⟨may, q3, w⟩⟩, rb_e rq_rE, o1] at h
    obtain ⟨m1, m2⟩ := rI_nr I (ed c) (1 - la c) (fr c) (by omega)
    refine ry_ab _ rfl rfl (rn_rA (by omega)) (by omega) (by omega) (by omega) (rI_on I) (rI_fr I) ?_
    generalize hm : (rd_nr ps fr) (2 * ed c + (1 - la c) + 1) (fr c) 32 = m at *
    refine ek_f (rn_yn (by omega)) (fun q4 => ry_m104 post I hc rfl (by omega) (by omega) (by omega) ?_) (fun q4 => ?_)
    · rw [rb_e (Q := (0 < m → rd_Fo (fr c) (sp c) (fr (m - 1)) (sp (m - 1)) (sz (ty (m - 1)))) ∧ rq_r2 sz ty fr sp pg (2 * ed c + (1 - la c) + 1) ((rd_nu ps fr) (2 * ed c + (1 - la c) + 1) (fr c) 32) c) ⟨fun w => ⟨fun v => by omega, w⟩, fun w => w.2⟩]
      exact h
    · obtain ⟨b1, b2, b3, b4, b5⟩ := m2 (by omega)
      have D := rI_c I (m - 1)
      have U := rI_y I (m - 1)
      refine ry_gp _ rfl (rn_ys (by omega)) hT hc b1 ⟨pk_in c 32 hc, rn_iy (by omega) m1 (by omega), ?_⟩
      rw [rn_Ay (by omega) (by omega), rn_rA (by omega)]
      refine ry_safe _ (by omega) (by omega) (by omega) ?_
      rw [rb_e rd_FoZ]
      refine rb_b (fun q5 => rb_q0 h (fun w => q5 (w.1 (by omega)))) (fun q5 => ry_m104 post I hc rfl (by omega) (by omega) (by omega) ?_)
      rw [rb_e (Q := (0 < m → rd_Fo (fr c) (sp c) (fr (m - 1)) (sp (m - 1)) (sz (ty (m - 1)))) ∧ rq_r2 sz ty fr sp pg (2 * ed c + (1 - la c) + 1) ((rd_nu ps fr) (2 * ed c + (1 - la c) + 1) (fr c) 32) c) ⟨fun w => ⟨fun _ => q5, w⟩, fun w => w.2⟩]
      exact h
end
end
section
/-! LANES: X's foremost ones and Y's positions, side by side -/
theorem rn_u3 {f : Nat → Nat} (k : Nat) : upd (rn_A f) k (rn_A f k + 1) = rn_A (ru_p f k (f k + 1)) := by
  funext j
  unfold upd rn_A ru_p
  by_cases z : j = k
  · rw [if_pos z, if_pos z]; exact nI_1 _
  · rw [if_neg z, if_neg z]
theorem rq_ot0 {p : Nat} (h : 0 < p) : 0 < rq_ot p := by
  unfold rq_ot
  split <;> omega
theorem rn_xc {p : Nat} (h : 0 < p) (h2 : p ≤ 32) : rn_c p ^^^ 1 = rn_c (rq_ot p) := by
  obtain ⟨s, rfl⟩ : ∃ s, p = s + 1 := ⟨p - 1, by omega⟩
  rw [rn_cs (rq_ot0 h)]
  exact rn_x1 s (by omega)
/-- ON e and not done -/
def rl_un (st ed : Nat → Nat) (e : Nat) (x : Int32) : Nat → Bool := fun c => decide (st c = 2 ∧ ed c = e) && !(bt x c)
section
variable {ln fm tt le li rk we op ca mk wd wn fa pc ph pa pe pt se ls mo tp ac sz dw st ty ed fr sp go nz tk en ch nw ps pg cf ct la gr cr ne nl oe ol fl tl : Nat → Nat} {tn kn N : Nat} {th : Int32} {gp fs : Nat → Int32}
theorem rl_L {c : Nat} (I : (rq_L ln fm tt le li rk we op mk wd wn pc ph pa pe pt se ls mo tp ac sz dw st ty ed fr sp go tk en ch ps pg cf ct la gr cr ne nl oe ol fl tl tn N)) (hc : c < 32) (h2 : st c = 2) (hl : ln (ed c) = 2) : (rq_L ln fm tt le li rk we op mk wd wn pc ph pa pe pt se ls mo tp ac sz dw st ty ed fr sp go tk en (ru_p ch c (N + 1)) (ru_p ps c (rq_ot (ps c))) pg cf ct (ru_p la c (1 - la c)) gr cr ne nl oe ol fl (ru_p tl 3 (tl 3 + 1)) tn N) := by
  obtain ⟨a1, a2, a3, a4, a5, a6, a7, a8⟩ := I
  exact ⟨a1, rq_changeC a2 hc h2 hl, a3, a4, a5, by rw [ru_n (by omega)]; exact a6, a7, a8⟩
theorem rl_I {c : Nat} (I : (rq_I ln fm tt le li rk we op mk wd wn pc ph pa pe pt se ls mo tp ac sz dw st ty ed fr sp go tk en ch ps pg cf ct la gr cr ne nl oe ol fl tl tn N)) (hc : c < 32) (h2 : st c = 2) (hl : ln (ed c) = 2) (hm : pg c = 0) (hr : (rq_room fr sp ps pg (fun x => sz (ty x))) (rq_ot (ps c)) c) : (rq_I ln fm tt le li rk we op mk wd wn pc ph pa pe pt se ls mo tp ac sz dw st ty ed fr sp go tk en (ru_p ch c (N + 1)) (ru_p ps c (rq_ot (ps c))) pg cf ct (ru_p la c (1 - la c)) gr cr ne nl oe ol fl (ru_p tl 3 (tl 3 + 1)) tn N) :=
  ⟨rl_L I.1 hc h2 hl, rq_changeS I.1.2.1 I.2 hc h2 hm hr⟩
/-- the one at this place -/
theorem rl_at (I : (rq_I ln fm tt le li rk we op mk wd wn pc ph pa pe pt se ls mo tp ac sz dw st ty ed fr sp go tk en ch ps pg cf ct la gr cr ne nl oe ol fl tl tn N)) (e l f : Nat) (hl : l ≤ 1) : ∃ k, (k = 0 ∧ ∀ c, c < 32 → ps c = 2 * e + l + 1 → fr c ≠ f) ∨ (∃ c, k = c + 1 ∧ c < 32 ∧ ps c = 2 * e + l + 1 ∧ fr c = f ∧ ∀ d, d < 32 → ps d = 2 * e + l + 1 → fr d = f → d = c) := by
  rcases Classical.em (∃ c, c < 32 ∧ ps c = 2 * e + l + 1 ∧ fr c = f) with ⟨c, c1, c2, c3⟩ | h
  · refine ⟨c + 1, Or.inr ⟨c, rfl, c1, c2, c3, fun d d1 d2 d3 => ?_⟩⟩
    rcases Nat.decEq d c with q | q
    · have := (I.2.1 d c d1 c1 q (by omega) (by omega)).1
      omega
    · exact q
  · exact ⟨0, Or.inl ⟨rfl, fun c c1 c2 c3 => h ⟨c, c1, c2, c3⟩⟩⟩
theorem rl_visit {e f l n : Nat} {dn : Int32} (I : (rq_I ln fm tt le li rk we op mk wd wn pc ph pa pe pt se ls mo tp ac sz dw st ty ed fr sp go tk en ch ps pg cf ct la gr cr ne nl oe ol fl tl tn N)) (he : e < 16) (hln : ln e = 2) (hl : l ≤ 1) (hf : f ≤ 200) (hLI : rd_LI N e f l (bt dn) st ed fr la ch) (hn : n + rd_bc (rl_un st ed e dn) 32 ≤ 32) :
    ∃ (ps' la' ch' tl' : Nat → Nat) (dn' : Int32) (n' : Nat), (rq_I ln fm tt le li rk we op mk wd wn pc ph pa pe pt se ls mo tp ac sz dw st ty ed fr sp go tk en ch' ps' pg cf ct la' gr cr ne nl oe ol fl tl' tn N) ∧ n' + rd_bc (rl_un st ed e dn') 32 ≤ 32 ∧
    (∀ d, d < 32 → st d = 2 → ed d = e → (bt dn' d = true ↔ bt dn d = true ∨ (fr d = f ∧ la d = l))) ∧
    (∀ d, d < 32 → st d = 2 → ed d = e → (la' d = la d ∧ ch' d = ch d) ∨ (bt dn' d = true ∧ fr d = f ∧ ch' d = N + 1)) ∧
    (∀ post, (∀ m, 33 - n' ≤ m → wX_changeLanesOn_4 post (nI e) (nI tn) m dn' (nI n') (rn_A ln) (rn_A fm) (rn_A tt) (rn_A le) (rn_A li) (rn_A rk) (rn_A we) (rn_A op) (rn_A ca) (rn_A mk) (rn_B wd) (rn_B wn) (rn_A pc) (rn_A ph) (rn_A pa) (rn_A pe) (rn_A pt) (rn_A tp) (rn_A ac) (rn_A sz) (rn_A dw) (rn_A st) (rn_A ty) (rn_A ed) (rn_B ps') (rn_A fr) (rn_A sp) (rn_A go) (rn_A nz) (rn_B pg) (rn_B cf) (rn_B ct) (rn_A tk) (rn_A en) (rn_B ch') (rn_A nw) (rn_A tl')) → ∀ m, 33 - n ≤ m → wX_changeLanesOn_4 post (nI e) (nI tn) m dn (nI n) (rn_A ln) (rn_A fm) (rn_A tt) (rn_A le) (rn_A li) (rn_A rk) (rn_A we) (rn_A op) (rn_A ca) (rn_A mk) (rn_B wd) (rn_B wn) (rn_A pc) (rn_A ph) (rn_A pa) (rn_A pe) (rn_A pt) (rn_A tp) (rn_A ac) (rn_A sz) (rn_A dw) (rn_A st) (rn_A ty) (rn_A ed) (rn_B ps) (rn_A fr) (rn_A sp) (rn_A go) (rn_A nz) (rn_B pg) (rn_B cf) (rn_B ct) (rn_A tk) (rn_A en) (rn_B ch) (rn_A nw) (rn_A tl)) ∧
    (∀ post J m kn fa gp fs th, (rq_WY ln fm tt le li we op mk fa kn) → (∀ kn fa, (rq_WY ln fm tt le li we op mk fa kn) → wY_changeLanes_13 post J (nI e) (nI f) m (nI (l + 1)) (nI kn) (nI tn) th (rn_T ln) (rn_A op) (rn_A fm) (rn_A tt) (rn_A le) (rn_A ln) (rn_A li) (rn_A rk) (rn_A we) (rn_A ca) (rn_A mk) (rn_A fa) (rn_A tp) (rn_A ac) (rn_A sz) (rn_A dw) (rn_A st) (rn_A ty) (rn_A ed) (rn_A la') (rn_A fr) (rn_A sp) (rn_A go) (rn_A nz) (rn_A tk) (rn_C ch') (rn_A en) (rn_A nw) (rn_A gr) (rn_A cr) (rn_A ne) (rn_A nl) (rn_A oe) (rn_A ol) (rn_A fl) (rn_A pc) (rn_A ph) (rn_A pa) (rn_A se) (rn_A ls) (rn_A mo) (rn_A tl') gp fs) → wY_changeLanes_13 post J (nI e) (nI f) (m + 1) (nI l) (nI kn) (nI tn) th (rn_T ln) (rn_A op) (rn_A fm) (rn_A tt) (rn_A le) (rn_A ln) (rn_A li) (rn_A rk) (rn_A we) (rn_A ca) (rn_A mk) (rn_A fa) (rn_A tp) (rn_A ac) (rn_A sz) (rn_A dw) (rn_A st) (rn_A ty) (rn_A ed) (rn_A la) (rn_A fr) (rn_A sp) (rn_A go) (rn_A nz) (rn_A tk) (rn_C ch) (rn_A en) (rn_A nw) (rn_A gr) (rn_A cr) (rn_A ne) (rn_A nl) (rn_A oe) (rn_A ol) (rn_A fl) (rn_A pc) (rn_A ph) (rn_A pa) (rn_A se) (rn_A ls) (rn_A mo) (rn_A tl) gp fs) := by
  obtain ⟨k, hk⟩ := rl_at I e l f hl
  have hO := rI_on I.1
  have cat : ∀ {c}, c < 32 → ps c = 2 * e + l + 1 → st c = 2 ∧ ed c = e ∧ la c = l := fun c1 c2 => (rq_onI hO c1 hl).mpr c2
  have tac : ∀ {c}, c < 32 → st c = 2 → ed c = e → la c = l → ps c = 2 * e + l + 1 := fun c1 c2 c3 c4 => (rq_onI hO c1 hl).mp ⟨c2, c3, c4⟩
  -- Y's look at the place
  have lookY : ∀ (post : SY → Prop) J m kn fa gp fs th, (wY_changeLanes_13 post J (nI e) (nI f) (m + 1) (nI l) (nI kn) (nI tn) th (rn_T ln) (rn_A op) (rn_A fm) (rn_A tt) (rn_A le) (rn_A ln) (rn_A li) (rn_A rk) (rn_A we) (rn_A ca) (rn_A mk) (rn_A fa) (rn_A tp) (rn_A ac) (rn_A sz) (rn_A dw) (rn_A st) (rn_A ty) (rn_A ed) (rn_A la) (rn_A fr) (rn_A sp) (rn_A go) (rn_A nz) (rn_A tk) (rn_C ch) (rn_A en) (rn_A nw) (rn_A gr) (rn_A cr) (rn_A ne) (rn_A nl) (rn_A oe) (rn_A ol) (rn_A fl) (rn_A pc) (rn_A ph) (rn_A pa) (rn_A se) (rn_A ls) (rn_A mo) (rn_A tl) gp fs) = (wY_changeLanes_13 post J (nI e) (nI f) (m + 1) (nI l) (nI kn) (nI tn) th (rn_T ln) (rn_A op) (rn_A fm) (rn_A tt) (rn_A le) (rn_A ln) (rn_A li) (rn_A rk) (rn_A we) (rn_A ca) (rn_A mk) (rn_A fa) (rn_A tp) (rn_A ac) (rn_A sz) (rn_A dw) (rn_A st) (rn_A ty) (rn_A ed) (rn_A la) (rn_A fr) (rn_A sp) (rn_A go) (rn_A nz) (rn_A tk) (rn_C ch) (rn_A en) (rn_A nw) (rn_A gr) (rn_A cr) (rn_A ne) (rn_A nl) (rn_A oe) (rn_A ol) (rn_A fl) (rn_A pc) (rn_A ph) (rn_A pa) (rn_A se) (rn_A ls) (rn_A mo) (rn_A tl) gp fs) := fun _ _ _ _ _ _ _ _ => rfl
  rcases hk with ⟨k0, k1⟩ | ⟨c, k0, c1, c2, c3, c4⟩
  · refine ⟨ps, la, ch, tl, dn, n, I, hn, fun d d1 d2 d3 => ⟨Or.inl, fun w => w.elim id (fun v => absurd v.1 (k1 d d1 (tac d1 d2 d3 v.2)))⟩, fun d _ _ _ => Or.inl ⟨rfl, rfl⟩, fun post h => h, fun post J m kn fa gp fs th hW h => ?_⟩
    refine br_f (nI_ge (b := 2) (by omega) (by decide)) (ry_ca _ (k := k) rfl rfl rfl (by omega) hl (by omega) hO (rI_fr I.1) (Or.inl ⟨k0, k1⟩) ?_)
    subst k0
    exact br_t (by decide) (br_t rfl (nm_r (nI_1 l) (h kn fa hW)))
  · obtain ⟨s2, e2, l2⟩ := cat c1 c2
    have hk' : (k = 0 ∧ ∀ c, c < 32 → ps c = 2 * e + l + 1 → fr c ≠ f) ∨ (∃ c, k = c + 1 ∧ c < 32 ∧ ps c = 2 * e + l + 1 ∧ fr c = f ∧ ∀ d, d < 32 → ps d = 2 * e + l + 1 → fr d = f → d = c) := Or.inr ⟨c, k0, c1, c2, c3, c4⟩
    have lc := hLI c c1 s2 e2
    have la1 : la c ≤ 1 := by omega
    rcases hdn : bt dn c with _ | _
    · -- not done: X's foremost
      have hfo : rd_fo st ed fr ps (bt dn) e 32 = c + 1 := rd_LIf hLI I.2.1 (fun d d1 d2 d3 => by have := ((rI_p I.1 d1).2.2.2.1 d2).1; rw [d3] at this; exact this) c1 s2 e2 c3 l2 hdn
      have hbt : ∀ i, i < 32 → bt (dn ||| ((1 : Int32) <<< (nI c &&& 31))) i = (bt dn i || decide (i = c)) := fun i hi => rd_sto dn c1 hi
      have cnt : rd_bc (rl_un st ed e (dn ||| ((1 : Int32) <<< (nI c &&& 31)))) 32 + 1 = rd_bc (rl_un st ed e dn) 32 := by
        refine rd_bcD (c := c) ?_ ?_ c1 (fun a ha hac => ?_)
        · unfold rl_un; rw [hdn, decide_eq_true ⟨s2, e2⟩]; rfl
        · unfold rl_un; rw [hbt c c1, decide_eq_true (p := c = c) rfl, Bool.or_true]; simp
        · unfold rl_un; rw [hbt a ha, decide_eq_false hac, Bool.or_false]
      have n31 : n < 32 := by omega
      have A1 : ∀ d, d < 32 → st d = 2 → ed d = e → (bt (dn ||| ((1 : Int32) <<< (nI c &&& 31))) d = true ↔ bt dn d = true ∨ (fr d = f ∧ la d = l)) := by
        intro d d1 d2 d3
        rw [hbt d d1, Bool.or_eq_true, decide_eq_true_iff]
        constructor
        · rintro (w | w)
          · exact Or.inl w
          · subst w; exact Or.inr ⟨c3, l2⟩
        · rintro (w | w)
          · exact Or.inl w
          · exact Or.inr (c4 d d1 (tac d1 d2 d3 w.2) w.1)
      have hPS : ∀ c, c < 32 → st c = 2 → 0 < ps c := fun d d1 d2 => by have := ((rI_p I.1 d1).2.2.2.1 d2).1; omega
      rcases Classical.em ((rq_may pg ch) N c ∧ (rq_wants ln fm tt mk tp ty ed fr sp go ps (fun x => sz (ty x))) ((rq_nx wn ed go) c) (rq_ot (ps c)) c ∧ (rq_room fr sp ps pg (fun x => sz (ty x))) (rq_ot (ps c)) c) with M | M
      · refine ⟨ru_p ps c (rq_ot (ps c)), ru_p la c (1 - la c), ru_p ch c (N + 1), ru_p tl 3 (tl 3 + 1), _, n + 1, rl_I I c1 s2 (by rw [e2]; exact hln) M.1.1 M.2.2, by omega, A1, fun d d1 d2 d3 => ?_, fun post h m hm => ?_, fun post J m kn fa gp fs th hW h => ?_⟩
        · rcases Nat.decEq d c with q | q
          · rw [ru_n q, ru_n q]; exact Or.inl ⟨rfl, rfl⟩
          · subst q
            refine Or.inr ⟨?_, c3, ru_s⟩
            rw [A1 d c1 s2 e2]; exact Or.inr ⟨c3, l2⟩
        · obtain ⟨m', rfl⟩ : ∃ m', m = m' + 1 := ⟨m - 1, by omega⟩
          refine br_f (nI_ge (b := 32) n31 (by decide)) (rx_fo _ rfl he (rI_st I.1) (rI_ed I.1) (rI_fr I.1) (rI_ps I.1) hPS ?_)
          rw [hfo]
          refine br_f (fun w => ?_) (nm_e (rx_my _ rfl I.1 c1 (rb_b (fun q => absurd M.1 q) (fun _ => rx_wa _ rfl I.1 c1 s2 (rb_b (fun q => absurd M.2.1 q) (fun _ => rx_rm _ rfl I.1 c1 s2 (rb_b (fun q => absurd M.2.2 q) (fun _ => ⟨pk_in c 32 c1, pk_in c 32 c1, ?_⟩))))))))
          · have := (rn_c2 (n := c + 1) (by omega)).mp w; omega
          · refine nm_r (e' := rn_B (ru_p ps c (rq_ot (ps c)))) ?_ ⟨pk_in c 32 c1, nm_r (e' := rn_B (ru_p ch c (N + 1))) ?_ (nm_r (rn_u3 3) (nm_r (nI_1 n) (h m' (by omega))))⟩
            · show upd (rn_B ps) (nI c).toNatClampNeg (rn_B ps (nI c).toNatClampNeg ^^^ 1) = _
              rw [rn_rB (i := c) (by omega), rn_xc (by omega) (rI_ps I.1 c c1)]
              exact rn_uB (by omega)
            · show upd (rn_B ch) (nI c).toNatClampNeg (nI (tl 0)) = _
              rw [I.1.2.2.2.2.2.1]
              exact rn_uB (x := N + 1) (by omega)
        · refine br_f (nI_ge (b := 2) (by omega) (by decide)) (ry_ca _ (k := k) rfl rfl rfl (by omega) hl (by omega) hO (rI_fr I.1) hk' ?_)
          rw [k0]
          refine br_f (nI_pos (by omega)) (ry_my _ rfl I.1 hW c1 s2 (fun kn fa hW' => rb_b (fun q => absurd M q) (fun _ => br_f (by decide) ⟨pk_in c 32 c1, nm_r (e' := rn_A (ru_p la c (1 - la c))) ?_ ⟨pk_in c 32 c1, nm_r (e' := rn_C (ru_p ch c (N + 1))) ?_ (nm_r (rn_u3 3) (nm_r (nI_1 l) (h kn fa hW')))⟩⟩)))
          · show upd (rn_A la) (nI c).toNatClampNeg (1 - nI l) = _
            rw [show (1 : Int32) = nI 1 from rfl, pk_sub hl, ← l2]
            exact rn_uA (by omega)
          · show upd (rn_C ch) (nI c).toNatClampNeg (nI (tl 0)) = _
            rw [I.1.2.2.2.2.2.1]
            exact rn_uC (x := N + 1) (by omega)
      · refine ⟨ps, la, ch, tl, _, n + 1, I, by omega, A1, fun d _ _ _ => Or.inl ⟨rfl, rfl⟩, fun post h m hm => ?_, fun post J m kn fa gp fs th hW h => ?_⟩
        · obtain ⟨m', rfl⟩ : ∃ m', m = m' + 1 := ⟨m - 1, by omega⟩
          refine br_f (nI_ge (b := 32) n31 (by decide)) (rx_fo _ rfl he (rI_st I.1) (rI_ed I.1) (rI_fr I.1) (rI_ps I.1) hPS ?_)
          rw [hfo]
          have go1 := h m' (by omega)
          refine br_f (fun w => ?_) (nm_e (rx_my _ rfl I.1 c1 (rb_b (fun _ => nm_r (nI_1 n) go1) (fun q1 => rx_wa _ rfl I.1 c1 s2 (rb_b (fun _ => nm_r (nI_1 n) go1) (fun q2 => rx_rm _ rfl I.1 c1 s2 (rb_b (fun _ => nm_r (nI_1 n) go1) (fun q3 => absurd ⟨q1, q2, q3⟩ M))))))))
          have := (rn_c2 (n := c + 1) (by omega)).mp w; omega
        · refine br_f (nI_ge (b := 2) (by omega) (by decide)) (ry_ca _ (k := k) rfl rfl rfl (by omega) hl (by omega) hO (rI_fr I.1) hk' ?_)
          rw [k0]
          exact br_f (nI_pos (by omega)) (ry_my _ rfl I.1 hW c1 s2 (fun kn fa hW' => rb_b (fun _ => br_t rfl (nm_r (nI_1 l) (h kn fa hW'))) (fun q => absurd q M)))
    · -- done already: it changed in this step
      have l1 : l = 1 := by
        rcases lc.1 hdn with w | w
        · omega
        · exact w.1
      have chN := lc.2.2 hdn c3 (by omega)
      refine ⟨ps, la, ch, tl, dn, n, I, hn, fun d d1 d2 d3 => ⟨Or.inl, fun w => w.elim id (fun v => by have := c4 d d1 (tac d1 d2 d3 v.2) v.1; subst this; exact hdn)⟩, fun d _ _ _ => Or.inl ⟨rfl, rfl⟩, fun post h => h, fun post J m kn fa gp fs th hW h => ?_⟩
      refine br_f (nI_ge (b := 2) (by omega) (by decide)) (ry_ca _ (k := k) rfl rfl rfl (by omega) hl (by omega) hO (rI_fr I.1) hk' ?_)
      rw [k0]
      refine br_f (nI_pos (by omega)) (ry_my _ rfl I.1 hW c1 s2 (fun kn fa hW' => rb_b (fun _ => br_t rfl (nm_r (nI_1 l) (h kn fa hW'))) (fun q => ?_)))
      have := q.1.2
      omega
end
end
section
/-! LANES, to the end -/
section
variable {ln fm tt le li rk we op ca mk wd wn fa pc ph pa pe pt se ls mo tp ac sz dw st ty ed fr sp go nz tk en ch nw ps pg cf ct la gr cr ne nl oe ol fl tl : Nat → Nat} {tn kn N : Nat} {th : Int32} {gp fs : Nat → Int32}
theorem rl_on {e : Nat} (he : e < 16) (hln : ln e = 2) : ∀ f, f ≤ 200 → ∀ (ps la ch tl : Nat → Nat) (n : Nat) (dn : Int32), (rq_I ln fm tt le li rk we op mk wd wn pc ph pa pe pt se ls mo tp ac sz dw st ty ed fr sp go tk en ch ps pg cf ct la gr cr ne nl oe ol fl tl tn N) → rd_LI N e f 0 (bt dn) st ed fr la ch → n + rd_bc (rl_un st ed e dn) 32 ≤ 32 →
    ∃ ps' la' ch' tl' : Nat → Nat, (rq_I ln fm tt le li rk we op mk wd wn pc ph pa pe pt se ls mo tp ac sz dw st ty ed fr sp go tk en ch' ps' pg cf ct la' gr cr ne nl oe ol fl tl' tn N) ∧
    (∀ post, post (nI tn, rn_A ln, rn_A fm, rn_A tt, rn_A le, rn_A li, rn_A rk, rn_A we, rn_A op, rn_A ca, rn_A mk, rn_B wd, rn_B wn, rn_A pc, rn_A ph, rn_A pa, rn_A pe, rn_A pt, rn_A tp, rn_A ac, rn_A sz, rn_A dw, rn_A st, rn_A ty, rn_A ed, rn_B ps', rn_A fr, rn_A sp, rn_A go, rn_A nz, rn_B pg, rn_B cf, rn_B ct, rn_A tk, rn_A en, rn_B ch', rn_A nw, rn_A tl') → ∀ m, 33 - n ≤ m → wX_changeLanesOn_4 post (nI e) (nI tn) m dn (nI n) (rn_A ln) (rn_A fm) (rn_A tt) (rn_A le) (rn_A li) (rn_A rk) (rn_A we) (rn_A op) (rn_A ca) (rn_A mk) (rn_B wd) (rn_B wn) (rn_A pc) (rn_A ph) (rn_A pa) (rn_A pe) (rn_A pt) (rn_A tp) (rn_A ac) (rn_A sz) (rn_A dw) (rn_A st) (rn_A ty) (rn_A ed) (rn_B ps) (rn_A fr) (rn_A sp) (rn_A go) (rn_A nz) (rn_B pg) (rn_B cf) (rn_B ct) (rn_A tk) (rn_A en) (rn_B ch) (rn_A nw) (rn_A tl)) ∧
    (∀ post m kn fa gp fs th, f < m → (rq_WY ln fm tt le li we op mk fa kn) → (∀ kn fa, (rq_WY ln fm tt le li we op mk fa kn) → post (nI kn, nI tn, th, rn_T ln, rn_A op, rn_A fm, rn_A tt, rn_A le, rn_A ln, rn_A li, rn_A rk, rn_A we, rn_A ca, rn_A mk, rn_A fa, rn_A tp, rn_A ac, rn_A sz, rn_A dw, rn_A st, rn_A ty, rn_A ed, rn_A la', rn_A fr, rn_A sp, rn_A go, rn_A nz, rn_A tk, rn_C ch', rn_A en, rn_A nw, rn_A gr, rn_A cr, rn_A ne, rn_A nl, rn_A oe, rn_A ol, rn_A fl, rn_A pc, rn_A ph, rn_A pa, rn_A se, rn_A ls, rn_A mo, rn_A tl', gp, fs)) → wY_changeLanes_7 post (nI e) m (nI f) (nI kn) (nI tn) th (rn_T ln) (rn_A op) (rn_A fm) (rn_A tt) (rn_A le) (rn_A ln) (rn_A li) (rn_A rk) (rn_A we) (rn_A ca) (rn_A mk) (rn_A fa) (rn_A tp) (rn_A ac) (rn_A sz) (rn_A dw) (rn_A st) (rn_A ty) (rn_A ed) (rn_A la) (rn_A fr) (rn_A sp) (rn_A go) (rn_A nz) (rn_A tk) (rn_C ch) (rn_A en) (rn_A nw) (rn_A gr) (rn_A cr) (rn_A ne) (rn_A nl) (rn_A oe) (rn_A ol) (rn_A fl) (rn_A pc) (rn_A ph) (rn_A pa) (rn_A se) (rn_A ls) (rn_A mo) (rn_A tl) gp fs) := by
  intro f
  induction f with
  | zero =>
    intro _ ps la ch tl n dn I hL hn
    refine ⟨ps, la, ch, tl, I, fun post h m hm => ?_, fun post m kn fa gp fs th hm hW h => ?_⟩
    · obtain ⟨m', rfl⟩ : ∃ m', m = m' + 1 := ⟨m - 1, by omega⟩
      have hf := rd_LIz (ps := ps) hL (fun d d1 d2 d3 => ((I.2.2.2.2.2.2 d d1).1 (by have := ((rI_p I.1 d1).2.2.2.1 d2).1; omega)).1)
      refine br_c (fun _ => h) (fun _ => rx_fo _ rfl he (rI_st I.1) (rI_ed I.1) (rI_fr I.1) (rI_ps I.1) (fun d d1 d2 => by have := ((rI_p I.1 d1).2.2.2.1 d2).1; omega) ?_)
      rw [hf]
      exact br_t rfl h
    · obtain ⟨m', rfl⟩ : ∃ m', m = m' + 1 := ⟨m - 1, by omega⟩
      exact br_t (by decide) (h kn fa hW)
  | succ f ih =>
    intro hf ps la ch tl n dn I hL hn
    obtain ⟨ps1, la1, ch1, tl1, dn1, n1, I1, hn1, a1, b1, x1, y1⟩ := rl_visit I he hln (by omega) hf hL hn
    have hL1 := rd_LI0 hL a1 b1
    obtain ⟨ps2, la2, ch2, tl2, dn2, n2, I2, hn2, a2, b2, x2, y2⟩ := rl_visit I1 he hln (by omega) hf hL1 hn1
    have hL2 := rd_LI1 (la' := la2) (ch' := ch2) hL1 (fun d _ _ _ => (rI_c I1.1 d).2.2.2.2.2.2.2.2.2) a2
    obtain ⟨ps3, la3, ch3, tl3, I3, x3, y3⟩ := ih (by omega) ps2 la2 ch2 tl2 n2 dn2 I2 hL2 hn2
    refine ⟨ps3, la3, ch3, tl3, I3, fun post h => x1 post (x2 post (x3 post h)), fun post m kn fa gp fs th hm hW h => ?_⟩
    obtain ⟨m', rfl⟩ : ∃ m', m = m' + 1 := ⟨m - 1, by omega⟩
    refine br_f (nI_nle (by omega) (by omega)) ⟨3, y1 post _ 2 kn fa gp fs th hW (fun kn fa hW' => y2 post _ 1 kn fa gp fs th hW' (fun kn fa hW'' => br_t (by decide) (nm_r (pk_m1 f) (y3 post m' kn fa gp fs th (by omega) hW'' h))))⟩
theorem rl_edge {e : Nat} (he : e < 16) (hln : ln e = 2) (I : (rq_I ln fm tt le li rk we op mk wd wn pc ph pa pe pt se ls mo tp ac sz dw st ty ed fr sp go tk en ch ps pg cf ct la gr cr ne nl oe ol fl tl tn N)) : ∃ ps' la' ch' tl' : Nat → Nat, (rq_I ln fm tt le li rk we op mk wd wn pc ph pa pe pt se ls mo tp ac sz dw st ty ed fr sp go tk en ch' ps' pg cf ct la' gr cr ne nl oe ol fl tl' tn N) ∧
    (∀ post, post (nI tn, rn_A ln, rn_A fm, rn_A tt, rn_A le, rn_A li, rn_A rk, rn_A we, rn_A op, rn_A ca, rn_A mk, rn_B wd, rn_B wn, rn_A pc, rn_A ph, rn_A pa, rn_A pe, rn_A pt, rn_A tp, rn_A ac, rn_A sz, rn_A dw, rn_A st, rn_A ty, rn_A ed, rn_B ps', rn_A fr, rn_A sp, rn_A go, rn_A nz, rn_B pg, rn_B cf, rn_B ct, rn_A tk, rn_A en, rn_B ch', rn_A nw, rn_A tl') → wpX_changeLanesOn post (nI tn, rn_A ln, rn_A fm, rn_A tt, rn_A le, rn_A li, rn_A rk, rn_A we, rn_A op, rn_A ca, rn_A mk, rn_B wd, rn_B wn, rn_A pc, rn_A ph, rn_A pa, rn_A pe, rn_A pt, rn_A tp, rn_A ac, rn_A sz, rn_A dw, rn_A st, rn_A ty, rn_A ed, rn_B ps, rn_A fr, rn_A sp, rn_A go, rn_A nz, rn_B pg, rn_B cf, rn_B ct, rn_A tk, rn_A en, rn_B ch, rn_A nw, rn_A tl) (nI e)) ∧
    (∀ post kn fa gp fs th, (rq_WY ln fm tt le li we op mk fa kn) → (∀ kn fa, (rq_WY ln fm tt le li we op mk fa kn) → post (nI kn, nI tn, th, rn_T ln, rn_A op, rn_A fm, rn_A tt, rn_A le, rn_A ln, rn_A li, rn_A rk, rn_A we, rn_A ca, rn_A mk, rn_A fa, rn_A tp, rn_A ac, rn_A sz, rn_A dw, rn_A st, rn_A ty, rn_A ed, rn_A la', rn_A fr, rn_A sp, rn_A go, rn_A nz, rn_A tk, rn_C ch', rn_A en, rn_A nw, rn_A gr, rn_A cr, rn_A ne, rn_A nl, rn_A oe, rn_A ol, rn_A fl, rn_A pc, rn_A ph, rn_A pa, rn_A se, rn_A ls, rn_A mo, rn_A tl', gp, fs)) → wpY_changeLanes post (nI kn, nI tn, th, rn_T ln, rn_A op, rn_A fm, rn_A tt, rn_A le, rn_A ln, rn_A li, rn_A rk, rn_A we, rn_A ca, rn_A mk, rn_A fa, rn_A tp, rn_A ac, rn_A sz, rn_A dw, rn_A st, rn_A ty, rn_A ed, rn_A la, rn_A fr, rn_A sp, rn_A go, rn_A nz, rn_A tk, rn_C ch, rn_A en, rn_A nw, rn_A gr, rn_A cr, rn_A ne, rn_A nl, rn_A oe, rn_A ol, rn_A fl, rn_A pc, rn_A ph, rn_A pa, rn_A se, rn_A ls, rn_A mo, rn_A tl, gp, fs) (nI e)) := by
  have A := rI_e I.1 e
  have L0 : rd_LI N e (le e) 0 (bt 0) st ed fr la ch := by
    intro c c1 c2 c3
    have p := ((rI_p I.1 c1).2.2.2.1 c2).1
    have q := (rq_psE I.1.2.1 c1 c2).1
    have b := ((I.2.2.2.2.2.2 c c1).1 (by omega)).2
    rw [q, c3] at b
    refine ⟨fun z => ?_, fun _ => ?_, fun z => ?_⟩
    · rw [b_0] at z; exact absurd z (by decide)
    · rcases Nat.lt_or_ge (fr c) (le e) with w | w
      · exact Or.inl w
      · exact Or.inr ⟨by omega, by omega⟩
    · rw [b_0] at z; exact absurd z (by decide)
  obtain ⟨ps', la', ch', tl', I', x, y⟩ := rl_on he hln (le e) (by omega) ps la ch tl 0 0 I L0 (by have := rd_bcL (rl_un st ed e 0) 32; omega)
  refine ⟨ps', la', ch', tl', I', fun post h => ⟨33, x post h 33 (by omega)⟩, fun post kn fa gp fs th hW h => ⟨pk_in e 16 he, nm_r (rn_rA (by omega)) ⟨le e + 1, y post _ kn fa gp fs th (by omega) hW h⟩⟩⟩
theorem rl_all : ∀ d e, e + d = 16 → ∀ ps la ch tl : Nat → Nat, (rq_I ln fm tt le li rk we op mk wd wn pc ph pa pe pt se ls mo tp ac sz dw st ty ed fr sp go tk en ch ps pg cf ct la gr cr ne nl oe ol fl tl tn N) → ∃ ps' la' ch' tl' : Nat → Nat, (rq_I ln fm tt le li rk we op mk wd wn pc ph pa pe pt se ls mo tp ac sz dw st ty ed fr sp go tk en ch' ps' pg cf ct la' gr cr ne nl oe ol fl tl' tn N) ∧
    (∀ post, post (nI tn, rn_A ln, rn_A fm, rn_A tt, rn_A le, rn_A li, rn_A rk, rn_A we, rn_A op, rn_A ca, rn_A mk, rn_B wd, rn_B wn, rn_A pc, rn_A ph, rn_A pa, rn_A pe, rn_A pt, rn_A tp, rn_A ac, rn_A sz, rn_A dw, rn_A st, rn_A ty, rn_A ed, rn_B ps', rn_A fr, rn_A sp, rn_A go, rn_A nz, rn_B pg, rn_B cf, rn_B ct, rn_A tk, rn_A en, rn_B ch', rn_A nw, rn_A tl') → wX_changeLanes_2 post (d + 1) (nI e) (nI tn) (rn_A ln) (rn_A fm) (rn_A tt) (rn_A le) (rn_A li) (rn_A rk) (rn_A we) (rn_A op) (rn_A ca) (rn_A mk) (rn_B wd) (rn_B wn) (rn_A pc) (rn_A ph) (rn_A pa) (rn_A pe) (rn_A pt) (rn_A tp) (rn_A ac) (rn_A sz) (rn_A dw) (rn_A st) (rn_A ty) (rn_A ed) (rn_B ps) (rn_A fr) (rn_A sp) (rn_A go) (rn_A nz) (rn_B pg) (rn_B cf) (rn_B ct) (rn_A tk) (rn_A en) (rn_B ch) (rn_A nw) (rn_A tl)) ∧
    (∀ post kn fa gp fs th, (rq_WY ln fm tt le li we op mk fa kn) → (∀ kn fa, (rq_WY ln fm tt le li we op mk fa kn) → ∃ n78, wY_stepOn_78 post n78 0 (nI kn) (nI tn) th (rn_T ln) (rn_A op) (rn_A fm) (rn_A tt) (rn_A le) (rn_A ln) (rn_A li) (rn_A rk) (rn_A we) (rn_A ca) (rn_A mk) (rn_A fa) (rn_A tp) (rn_A ac) (rn_A sz) (rn_A dw) (rn_A st) (rn_A ty) (rn_A ed) (rn_A la') (rn_A fr) (rn_A sp) (rn_A go) (rn_A nz) (rn_A tk) (rn_C ch') (rn_A en) (rn_A nw) (rn_A gr) (rn_A cr) (rn_A ne) (rn_A nl) (rn_A oe) (rn_A ol) (rn_A fl) (rn_A pc) (rn_A ph) (rn_A pa) (rn_A se) (rn_A ls) (rn_A mo) (rn_A tl') gp fs) → wY_stepOn_40 post (d + 1) (nI e) (nI kn) (nI tn) th (rn_T ln) (rn_A op) (rn_A fm) (rn_A tt) (rn_A le) (rn_A ln) (rn_A li) (rn_A rk) (rn_A we) (rn_A ca) (rn_A mk) (rn_A fa) (rn_A tp) (rn_A ac) (rn_A sz) (rn_A dw) (rn_A st) (rn_A ty) (rn_A ed) (rn_A la) (rn_A fr) (rn_A sp) (rn_A go) (rn_A nz) (rn_A tk) (rn_C ch) (rn_A en) (rn_A nw) (rn_A gr) (rn_A cr) (rn_A ne) (rn_A nl) (rn_A oe) (rn_A ol) (rn_A fl) (rn_A pc) (rn_A ph) (rn_A pa) (rn_A se) (rn_A ls) (rn_A mo) (rn_A tl) gp fs) := by
  intro d
  induction d with
  | zero =>
    intro e he ps la ch tl I
    have e16 : e = 16 := by omega
    subst e16
    exact ⟨ps, la, ch, tl, I, fun post h => br_t (by decide) h, fun post kn fa gp fs th hW h => br_t (by decide) (h kn fa hW)⟩
  | succ d ih =>
    intro e he ps la ch tl I
    have A := rI_e I.1 e
    have e6 : e < 16 := by omega
    rcases Nat.decEq (ln e) 2 with q | q
    · obtain ⟨ps', la', ch', tl', I', x, y⟩ := ih (e + 1) (by omega) ps la ch tl I
      refine ⟨ps', la', ch', tl', I', fun post h => br_f (nI_ge (b := 16) e6 (by decide)) ⟨pk_in e 16 e6, ?_⟩, fun post kn fa gp fs th hW h => br_f (nI_ge (b := 16) e6 (by decide)) ⟨pk_in e 16 e6, ?_⟩⟩
      · exact ek_f (rn_e (rn_rA (by omega)) (b := 2) rfl (by omega) (by omega)) (fun k => absurd k q) (fun _ => nm_r (nI_1 e) (x post h))
      · refine br_c (fun _ => nm_r (nI_1 e) (y post kn fa gp fs th hW h)) (fun _ => ⟨pk_in e 16 e6, ?_⟩)
        exact ek_f (rn_e (rn_rA (by omega)) (b := 2) rfl (by omega) (by omega)) (fun k => absurd k q) (fun _ => nm_r (nI_1 e) (y post kn fa gp fs th hW h))
    · obtain ⟨ps1, la1, ch1, tl1, I1, x1, y1⟩ := rl_edge e6 q I
      obtain ⟨ps', la', ch', tl', I', x, y⟩ := ih (e + 1) (by omega) ps1 la1 ch1 tl1 I1
      refine ⟨ps', la', ch', tl', I', fun post h => br_f (nI_ge (b := 16) e6 (by decide)) ⟨pk_in e 16 e6, ?_⟩, fun post kn fa gp fs th hW h => br_f (nI_ge (b := 16) e6 (by decide)) ⟨pk_in e 16 e6, ?_⟩⟩
      · exact ek_f (rn_e (rn_rA (by omega)) (b := 2) rfl (by omega) (by omega)) (fun _ => x1 _ (nm_r (nI_1 e) (x post h))) (fun k => absurd q k)
      · refine ek_f (rn_TT (by omega)) (fun k => by omega) (fun _ => ⟨pk_in e 16 e6, ?_⟩)
        exact ek_f (rn_e (rn_rA (by omega)) (b := 2) rfl (by omega) (by omega)) (fun _ => y1 _ kn fa gp fs th hW (fun kn fa hW' => nm_r (nI_1 e) (y post kn fa gp fs th hW' h))) (fun k => absurd q k)
end
end
section
/-! CROSSINGS: X's readers -/
theorem rn_cl {a b : Nat} {x y : Int32} (hx : x = rn_c a) (hy : y = rn_c b) (ha : a < 2147483648) (hb : b < 2147483648) : x ≤ y ↔ a ≤ b := by
  subst hx hy
  rw [rn_cz, rn_cz, Int32.le_iff_toInt_le, ri_toInt (by split <;> omega) (by split <;> omega), ri_toInt (by split <;> omega) (by split <;> omega)]
  split <;> split <;> omega
theorem ri_e {a b : Int} {x y : Int32} (hx : x = ri_z a) (hy : y = ri_z b) (ha : -2147483648 ≤ a ∧ a < 2147483648) (hb : -2147483648 ≤ b ∧ b < 2147483648) : x = y ↔ a = b := by
  subst hx hy
  exact ri_inj ha hb
theorem rq_1stE {P Q : Nat → Prop} {B : Nat → Nat → Prop} : ∀ {n : Nat}, (∀ c, c < n → (P c ↔ Q c)) → rq_1st P B n = rq_1st Q B n
  | 0, _ => rfl
  | n + 1, h => by
    have ih := rq_1stE (P := P) (Q := Q) (B := B) (n := n) (fun c hc => h c (by omega))
    have hn := h n (by omega)
    by_cases z : P n ∧ (rq_1st P B n = 0 ∨ B n (rq_1st P B n - 1))
    · rw [rq_1stP z, rq_1stP (by rw [← ih]; exact ⟨hn.mp z.1, z.2⟩)]
    · rw [rq_1stN z, rq_1stN (by rw [← ih]; exact fun w => z ⟨hn.mpr w.1, w.2⟩), ih]
section
variable {ln fm tt le li rk we op ca mk wd wn fa pc ph pa pe pt se ls mo tp ac sz dw st ty ed fr sp go nz tk en ch nw ps pg cf ct la gr cr ne nl oe ol fl tl : Nat → Nat} {tn kn N : Nat} {th : Int32} {gp fs : Nat → Int32}
theorem rI_as (I : (rq_L ln fm tt le li rk we op mk wd wn pc ph pa pe pt se ls mo tp ac sz dw st ty ed fr sp go tk en ch ps pg cf ct la gr cr ne nl oe ol fl tl tn N)) {c : Nat} (hc : c < 32) (h2 : st c = 2) : (rq_as ln) ((rq_nx wn ed go) c) (ps c) ≤ 32 ∧ (0 < (rq_nx wn ed go) c → 0 < (rq_as ln) ((rq_nx wn ed go) c) (ps c) ∧ rd_q ((rq_as ln) ((rq_nx wn ed go) c) (ps c)) = (rq_nx wn ed go) c - 1 ∧ 0 < ln ((rq_nx wn ed go) c - 1) ∧ (rq_nx wn ed go) c - 1 ≠ ed c ∧ (rq_as ln) ((rq_nx wn ed go) c) (ps c) = 2 * ((rq_nx wn ed go) c - 1) + (if ln ((rq_nx wn ed go) c - 1) = 1 then 0 else la c) + 1 ∧ (if ln ((rq_nx wn ed go) c - 1) = 1 then 0 else la c) ≤ 1) ∧ ((rq_nx wn ed go) c = 0 → (rq_as ln) ((rq_nx wn ed go) c) (ps c) = 0) := by
  obtain ⟨x1, x2⟩ := rI_nx I c
  obtain ⟨q1, q2, q3, q4, q5, q6⟩ := rq_psE I.2.1 hc h2
  rcases Nat.eq_zero_or_pos ((rq_nx wn ed go) c) with z | z
  · have : (rq_as ln) ((rq_nx wn ed go) c) (ps c) = 0 := by unfold rq_as; rw [if_pos z]
    exact ⟨by omega, fun w => by omega, fun _ => this⟩
  · obtain ⟨k1, k2⟩ := x2 z
    obtain ⟨f1, f2, f3, f4⟩ := rq_Kf k2
    have A := rI_e I ((rq_nx wn ed go) c - 1)
    obtain ⟨r1, r2, r3⟩ := rq_asE (p := ps c) z A.1 f1 q5
    have d : (rq_nx wn ed go) c - 1 ≠ ed c := by
      intro w
      rw [w] at f4 f1
      exact (rI_t I f1).1 f4
    refine ⟨by omega, fun _ => ⟨by omega, r2, f1, d, r1, by omega⟩, fun w => by omega⟩
theorem rx_sa (post : Int32 → Prop) {c : Nat} {x : Int32} (hx : x = nI c) (I : (rq_L ln fm tt le li rk we op mk wd wn pc ph pa pe pt se ls mo tp ac sz dw st ty ed fr sp go tk en ch ps pg cf ct la gr cr ne nl oe ol fl tl tn N)) (hc : c < 32) (h2 : st c = 2) (h : post (rn_c ((rq_as ln) ((rq_nx wn ed go) c) (ps c)))) : wpX_spotToAskFor post (nI tn, rn_A ln, rn_A fm, rn_A tt, rn_A le, rn_A li, rn_A rk, rn_A we, rn_A op, rn_A ca, rn_A mk, rn_B wd, rn_B wn, rn_A pc, rn_A ph, rn_A pa, rn_A pe, rn_A pt, rn_A tp, rn_A ac, rn_A sz, rn_A dw, rn_A st, rn_A ty, rn_A ed, rn_B ps, rn_A fr, rn_A sp, rn_A go, rn_A nz, rn_B pg, rn_B cf, rn_B ct, rn_A tk, rn_A en, rn_B ch, rn_A nw, rn_A tl) x := by
  subst hx
  obtain ⟨x1, x2⟩ := rI_nx I c
  obtain ⟨q1, q2, q3, q4, q5, q6⟩ := rq_psE I.2.1 hc h2
  unfold wpX_spotToAskFor
  refine rx_nx _ rfl hc (rI_ed I) (fun c => (rI_c I c).2.2.2.1) ?_
  unfold rq_as at h
  refine ek_f (rn_c2 (by omega)) (fun q => ?_) (fun q => ⟨rn_ic (by omega) x1 (by omega), ?_⟩)
  · rw [if_pos q] at h; exact h
  · rw [if_neg q] at h
    have A := rI_e I ((rq_nx wn ed go) c - 1)
    refine ek_f (rn_e (rn_Ac (by omega) (by omega)) (b := 2) rfl (by omega) (by omega)) (fun k => ⟨pk_in c 32 hc, by decide, ?_⟩) (fun k => ?_)
    · rw [if_pos k] at h
      rw [rn_rB (by omega), rn_cs q2, rn_cs (by omega), show (2 : Int32) * nI ((rq_nx wn ed go) c - 1) = nI (2 * ((rq_nx wn ed go) c - 1)) from pk_mul 2 _, show nI (ps c - 1) - nI (ps c - 1) / 2 * 2 = nI ((ps c - 1) % 2) from pk_rem (d := 2) (by omega) (by omega) (by omega), nI_add]
      exact h
    · rw [if_neg k] at h
      rw [rn_cs (by omega), show (2 : Int32) * nI ((rq_nx wn ed go) c - 1) = nI (2 * ((rq_nx wn ed go) c - 1)) from pk_mul 2 _]
      exact h
theorem rx_as (post : Int32 → Prop) {c j : Nat} {x : Int32} (hx : x = nI c) (I : (rq_L ln fm tt le li rk we op mk wd wn pc ph pa pe pt se ls mo tp ac sz dw st ty ed fr sp go tk en ch ps pg cf ct la gr cr ne nl oe ol fl tl tn N)) (hc : c < 32) (h2 : st c = 2) (hj : tt (ed c) = j) (h : post (rb_ ((rq_ask ln fm tt le mk wn pc ph pe st ed fr go ps pg) j c))) : wpX_asks post (nI tn, rn_A ln, rn_A fm, rn_A tt, rn_A le, rn_A li, rn_A rk, rn_A we, rn_A op, rn_A ca, rn_A mk, rn_B wd, rn_B wn, rn_A pc, rn_A ph, rn_A pa, rn_A pe, rn_A pt, rn_A tp, rn_A ac, rn_A sz, rn_A dw, rn_A st, rn_A ty, rn_A ed, rn_B ps, rn_A fr, rn_A sp, rn_A go, rn_A nz, rn_B pg, rn_B cf, rn_B ct, rn_A tk, rn_A en, rn_B ch, rn_A nw, rn_A tl) x := by
  subst hx
  have A := rI_c I c
  have B := rI_e I (ed c)
  have P := rI_p I hc
  obtain ⟨x1, x2⟩ := rI_nx I c
  obtain ⟨q1, q2, q3, q4, q5, q6⟩ := rq_psE I.2.1 hc h2
  obtain ⟨p1, p2⟩ := P.2.2.2.1 h2
  obtain ⟨s1, s2, s3⟩ := rI_as I hc h2
  refine ⟨pk_in c 32 hc, nm_r (rn_rA (by omega)) ⟨pk_in c 32 hc, ?_⟩⟩
  refine ek_f (rn_2 (rn_rB (by omega)) (b := 0) rfl (by omega) (by omega)) (fun k1 => ⟨pk_in c 32 hc, ?_⟩) (fun k1 => rb_p0 h (fun w => k1 w.2.2.1))
  refine ek_f (rn_e (rn_rA (by omega)) (b := ed c) rfl (by omega) (by omega)) (fun k2 => rb_p0 h (fun w => w.2.2.2.1 k2)) (fun k2 => ⟨vp_in_nI (by omega) (by omega), pk_in c 32 hc, ?_⟩)
  refine ek_f (ri_t (ri_n 40) (b := (le (ed c) : Int) - fr c) (by rw [rn_rA (by omega), rn_rA (by omega), ri_n, ri_n, ri_sub]) (by omega) (by omega)) (fun k3 => rb_p0 h (fun w => by have := w.2.2.2.2.1; omega)) (fun k3 => ?_)
  refine rx_gn _ rfl I.1 I.2.2.1 A.2.2.1 (rb_b (fun k4 => rb_p0 h (fun w => k4 w.2.2.2.2.2.1)) (fun k4 => ?_))
  refine rx_nx _ rfl hc (rI_ed I) (fun c => (rI_c I c).2.2.2.1) ⟨pk_in c 32 hc, ?_⟩
  refine rx_ld _ (s := ps c - 1) (by rw [rn_rB (by omega), rn_cs q2]) rfl I.1 (by omega) x1 (rb_b (fun k5 => rb_p0 h (fun w => k5 ⟨w.2.2.2.2.2.2.1, w.2.2.2.2.2.2.2.1⟩)) (fun k5 => ⟨pk_in c 32 hc, pk_in c 32 hc, ?_⟩))
  have ep : ps c - 1 + 1 = ps c := by omega
  refine rx_nb _ (s := ps c - 1) (by rw [rn_rB (by omega), rn_cs q2]) (rn_rA (by omega)) (by omega) (by omega) (rI_ps I) (rI_fr I) ?_
  rw [ep]
  have L := rd_nrL (ps := ps) (fr := fr) (s := ps c) (p := fr c) 32
  refine ek_f (rn_c2 (by omega)) (fun k6 => rb_p1 h ⟨h2, hj, k1, k2, by omega, k4, k5.1, k5.2, Or.inl k6⟩) (fun k6 => ⟨rn_ic (by omega) L (by omega), rx_sa _ rfl I hc h2 ?_⟩)
  have G := rI_pg I ((rd_nr ps fr) (ps c) (fr c) 32 - 1) (by omega)
  exact ek_f (rn_2 (rn_Bc (by omega) (by omega)) rfl (by omega) (by omega)) (fun k7 => rb_p1 h ⟨h2, hj, k1, k2, by omega, k4, k5.1, k5.2, Or.inr k7⟩) (fun k7 => rb_p0 h (fun w => w.2.2.2.2.2.2.2.2.elim k6 k7))
theorem rx_ak (post : Int32 → Prop) {j : Nat} {x : Int32} (hx : x = nI j) (I : (rq_L ln fm tt le li rk we op mk wd wn pc ph pa pe pt se ls mo tp ac sz dw st ty ed fr sp go tk en ch ps pg cf ct la gr cr ne nl oe ol fl tl tn N)) (hj : j < 8) (H : ∀ y, (∀ c, c < 32 → (bt y c = true ↔ (rq_ask ln fm tt le mk wn pc ph pe st ed fr go ps pg) j c)) → post y) : wpX_askersAt post (nI tn, rn_A ln, rn_A fm, rn_A tt, rn_A le, rn_A li, rn_A rk, rn_A we, rn_A op, rn_A ca, rn_A mk, rn_B wd, rn_B wn, rn_A pc, rn_A ph, rn_A pa, rn_A pe, rn_A pt, rn_A tp, rn_A ac, rn_A sz, rn_A dw, rn_A st, rn_A ty, rn_A ed, rn_B ps, rn_A fr, rn_A sp, rn_A go, rn_A nz, rn_B pg, rn_B cf, rn_B ct, rn_A tk, rn_A en, rn_B ch, rn_A nw, rn_A tl) x := by
  subst hx
  refine loop_0 (fun n i (y : Int32) => wX_askersAt_4 post (nI j) (nI tn) (rn_A ln) (rn_A fm) (rn_A tt) (rn_A le) (rn_A li) (rn_A rk) (rn_A we) (rn_A op) (rn_A ca) (rn_A mk) (rn_B wd) (rn_B wn) (rn_A pc) (rn_A ph) (rn_A pa) (rn_A pe) (rn_A pt) (rn_A tp) (rn_A ac) (rn_A sz) (rn_A dw) (rn_A st) (rn_A ty) (rn_A ed) (rn_B ps) (rn_A fr) (rn_A sp) (rn_A go) (rn_A nz) (rn_B pg) (rn_B cf) (rn_B ct) (rn_A tk) (rn_A en) (rn_B ch) (rn_A nw) (rn_A tl) n y (nI i)) (fun i y => ∀ c, c < 32 → (bt y c = true ↔ c < i ∧ (rq_ask ln fm tt le mk wn pc ph pe st ed fr go ps pg) j c)) 32 0 (fun c _ => by rw [b_0]; exact ⟨fun w => absurd w (by decide), fun w => absurd w.1 (Nat.not_lt_zero c)⟩) ?_ ?_
  · intro n y k
    exact br_t (by decide) (H y (fun c hc => ⟨fun w => ((k c hc).mp w).2, fun w => (k c hc).mpr ⟨hc, w⟩⟩))
  · intro n i y hi k ih
    have A := rI_c I i
    have B := rI_e I (ed i)
    have no : ¬ (rq_ask ln fm tt le mk wn pc ph pe st ed fr go ps pg) j i → ∀ c, c < 32 → (bt y c = true ↔ c < i + 1 ∧ (rq_ask ln fm tt le mk wn pc ph pe st ed fr go ps pg) j c) := by
      intro w c hc
      rw [k c hc]
      constructor
      · rintro ⟨a, b⟩; exact ⟨by omega, b⟩
      · rintro ⟨a, b⟩
        rcases Nat.decEq c i with q | q
        · exact ⟨by omega, b⟩
        · subst q; exact absurd b w
    refine pk_le 32 i (fun z => by omega) (fun _ => ⟨pk_in i 32 hi, ?_⟩)
    refine ek_f (rn_e (rn_rA (by omega)) (b := 2) rfl (by omega) (by omega)) (fun e1 => ⟨pk_in i 32 hi, rn_iA (by omega) A.2.2.1 (by omega), ?_⟩) (fun e1 => nm_r (nI_1 i) (ih y (no (fun w => e1 w.1))))
    refine ek_f (rn_e (rn_AA (by omega) (by omega)) (b := j) rfl (by omega) (by omega)) (fun e2 => ?_) (fun e2 => nm_r (nI_1 i) (ih y (no (fun w => e2 w.2.1))))
    refine rx_as _ rfl I hi e1 e2 (rb_b (fun e3 => nm_r (nI_1 i) (ih y (no e3))) (fun e3 => nm_e (nm_r (nI_1 i) (ih _ (fun c hc => ?_)))))
    rw [rd_sto y hi hc, Bool.or_eq_true, decide_eq_true_iff, k c hc]
    constructor
    · rintro (⟨a, b⟩ | a)
      · exact ⟨by omega, b⟩
      · subst a; exact ⟨by omega, e3⟩
    · rintro ⟨a, b⟩
      rcases Nat.decEq c i with q | q
      · exact Or.inl ⟨by omega, b⟩
      · exact Or.inr q
theorem rx_bf (post : Int32 → Prop) {c d : Nat} {x y : Int32} (hx : x = nI c) (hy : y = nI d) (I : (rq_L ln fm tt le li rk we op mk wd wn pc ph pa pe pt se ls mo tp ac sz dw st ty ed fr sp go tk en ch ps pg cf ct la gr cr ne nl oe ol fl tl tn N)) (hc : c < 32) (hd : d < 32) (h : post (rb_ ((rq_bf rk le ed fr ps) c d))) : wpX_standsBefore post (nI tn, rn_A ln, rn_A fm, rn_A tt, rn_A le, rn_A li, rn_A rk, rn_A we, rn_A op, rn_A ca, rn_A mk, rn_B wd, rn_B wn, rn_A pc, rn_A ph, rn_A pa, rn_A pe, rn_A pt, rn_A tp, rn_A ac, rn_A sz, rn_A dw, rn_A st, rn_A ty, rn_A ed, rn_B ps, rn_A fr, rn_A sp, rn_A go, rn_A nz, rn_B pg, rn_B cf, rn_B ct, rn_A tk, rn_A en, rn_B ch, rn_A nw, rn_A tl) x y := by
  subst hx hy
  have A := rI_c I c
  have A' := rI_c I d
  have B := rI_e I (ed c)
  have B' := rI_e I (ed d)
  have P := rI_ps I c hc
  have P' := rI_ps I d hd
  refine ⟨pk_in c 32 hc, nm_r (rn_rA (by omega)) ⟨pk_in d 32 hd, nm_r (rn_rA (by omega)) ⟨vp_in_nI (by omega) (by omega), vp_in_nI (by omega) (by omega), ?_⟩⟩⟩
  refine ek_f (rn_e (rn_rA (by omega)) (rn_rA (by omega)) (by omega) (by omega)) (fun k1 => ⟨vp_in_nI (by omega) (by omega), pk_in c 32 hc, nm_r (e' := ri_z ((le (ed c) : Int) - fr c)) (by rw [rn_rA (by omega), rn_rA (by omega), ri_n, ri_n, ri_sub]) ⟨vp_in_nI (by omega) (by omega), pk_in d 32 hd, nm_r (e' := ri_z ((le (ed d) : Int) - fr d)) (by rw [rn_rA (by omega), rn_rA (by omega), ri_n, ri_n, ri_sub]) ?_⟩⟩) (fun k1 => ⟨vp_in_nI (by omega) (by omega), vp_in_nI (by omega) (by omega), ?_⟩)
  · refine ek_f (ri_e rfl rfl (by omega) (by omega)) (fun k2 => ⟨pk_in c 32 hc, pk_in d 32 hd, ?_⟩) (fun k2 => ?_)
    · exact ek_f (rn_cl (rn_rB (by omega)) (rn_rB (by omega)) (by omega) (by omega)) (fun k3 => rb_p0 h (fun w => by unfold rq_bf at w; omega)) (fun k3 => rb_p1 h (Or.inr ⟨k1, Or.inr ⟨by omega, by omega⟩⟩))
    · exact ek_f (ri_l rfl rfl (by omega) (by omega)) (fun k3 => rb_p0 h (fun w => by unfold rq_bf at w; omega)) (fun k3 => rb_p1 h (Or.inr ⟨k1, Or.inl (by omega)⟩))
  · exact pk_le (rk (ed c)) (rk (ed d)) (fun k3 => rb_p0 h (fun w => by unfold rq_bf at w; omega)) (fun k3 => rb_p1 h (Or.inl k3)) (rn_rA (by omega)) (rn_rA (by omega))
/-- the gap up to the END -/
def rq_ge (le ed fr go : Nat → Nat) (s c : Nat) : Int := if s = 0 then (if go c = ed c then 1000 else (le (ed c) : Int) - fr c) else (if go c = rd_q s then 1000 else (le (ed c) : Int) - fr c + le (rd_q s))
theorem rx_ge (post : Int32 → Prop) {c s : Nat} {x y : Int32} (hx : x = nI c) (hy : y = rn_c s) (I : (rq_L ln fm tt le li rk we op mk wd wn pc ph pa pe pt se ls mo tp ac sz dw st ty ed fr sp go tk en ch ps pg cf ct la gr cr ne nl oe ol fl tl tn N)) (hc : c < 32) (hs : s ≤ 32) (h : post (ri_z (rq_ge le ed fr go s c))) : wpX_gapToEnd post (nI tn, rn_A ln, rn_A fm, rn_A tt, rn_A le, rn_A li, rn_A rk, rn_A we, rn_A op, rn_A ca, rn_A mk, rn_B wd, rn_B wn, rn_A pc, rn_A ph, rn_A pa, rn_A pe, rn_A pt, rn_A tp, rn_A ac, rn_A sz, rn_A dw, rn_A st, rn_A ty, rn_A ed, rn_B ps, rn_A fr, rn_A sp, rn_A go, rn_A nz, rn_B pg, rn_B cf, rn_B ct, rn_A tk, rn_A en, rn_B ch, rn_A nw, rn_A tl) x y := by
  subst hx hy
  have A := rI_c I c
  have B := rI_e I (ed c)
  unfold rq_ge at h
  refine ⟨pk_in c 32 hc, nm_r (rn_rA (by omega)) ?_⟩
  refine ek_f (rn_c2 (by omega)) (fun k1 => ⟨pk_in c 32 hc, ?_⟩) (fun k1 => ⟨by decide, ?_⟩)
  · rw [if_pos k1] at h
    refine ek_f (rn_e (rn_rA (by omega)) rfl (by omega) (by omega)) (fun k2 => by rw [if_pos k2] at h; exact h) (fun k2 => ⟨vp_in_nI (by omega) (by omega), pk_in c 32 hc, nm_r (e' := ri_z ((le (ed c) : Int) - fr c)) (by rw [rn_rA (by omega), rn_rA (by omega), ri_n, ri_n, ri_sub]) ?_⟩)
    rw [if_neg k2] at h
    exact br_t ((rn_c2 (by omega)).mpr k1) h
  · rw [if_neg k1] at h
    have q6 : rd_q s < 16 := by unfold rd_q; omega
    have C := rI_e I (rd_q s)
    have e2 : rn_c s / 2 = nI (rd_q s) := by
      rw [rn_cs (by omega)]
      exact pk_div (d := 2) (by omega) (by omega) (by omega)
    rw [e2]
    refine ⟨pk_in c 32 hc, ek_f (rn_e (rn_rA (by omega)) rfl (by omega) (by omega)) (fun k2 => by rw [if_pos k2] at h; exact h) (fun k2 => ⟨vp_in_nI (by omega) (by omega), pk_in c 32 hc, nm_r (e' := ri_z ((le (ed c) : Int) - fr c)) (by rw [rn_rA (by omega), rn_rA (by omega), ri_n, ri_n, ri_sub]) ?_⟩)⟩
    rw [if_neg k2] at h
    refine br_f (fun w => k1 ((rn_c2 (by omega)).mp w)) ⟨vp_in_nI q6 (by omega), ?_⟩
    rw [rn_rA (by omega), ri_n, ri_add]
    exact h
/-- the one AHEAD, by its code -/
def rq_le (fr ps : Nat → Nat) (s c : Nat) : Nat := if rd_nr ps fr (ps c) (fr c) 32 = 0 then (if s = 0 then 0 else rd_nr ps fr s 0 32) else rd_nr ps fr (ps c) (fr c) 32
theorem rx_le (post : Int32 → Prop) {c s : Nat} {x y : Int32} (hx : x = nI c) (hy : y = rn_c s) (I : (rq_L ln fm tt le li rk we op mk wd wn pc ph pa pe pt se ls mo tp ac sz dw st ty ed fr sp go tk en ch ps pg cf ct la gr cr ne nl oe ol fl tl tn N)) (hc : c < 32) (h2 : st c = 2) (hs : s ≤ 32) (h : post (rn_c (rq_le fr ps s c))) : wpX_leaderOf post (nI tn, rn_A ln, rn_A fm, rn_A tt, rn_A le, rn_A li, rn_A rk, rn_A we, rn_A op, rn_A ca, rn_A mk, rn_B wd, rn_B wn, rn_A pc, rn_A ph, rn_A pa, rn_A pe, rn_A pt, rn_A tp, rn_A ac, rn_A sz, rn_A dw, rn_A st, rn_A ty, rn_A ed, rn_B ps, rn_A fr, rn_A sp, rn_A go, rn_A nz, rn_B pg, rn_B cf, rn_B ct, rn_A tk, rn_A en, rn_B ch, rn_A nw, rn_A tl) x y := by
  subst hx hy
  have A := rI_c I c
  obtain ⟨q1, q2, q3, q4, q5, q6⟩ := rq_psE I.2.1 hc h2
  unfold rq_le at h
  refine ⟨pk_in c 32 hc, pk_in c 32 hc, rx_nb _ (s := ps c - 1) (by rw [rn_rB (by omega), rn_cs q2]) (rn_rA (by omega)) (by omega) (by omega) (rI_ps I) (rI_fr I) ?_⟩
  have ep : ps c - 1 + 1 = ps c := by omega
  rw [ep]
  have L := rd_nrL (ps := ps) (fr := fr) (s := ps c) (p := fr c) 32
  refine ek_f (rn_c2 (by omega)) (fun k1 => ?_) (fun k1 => by rw [if_neg k1] at h; exact h)
  rw [if_pos k1] at h
  refine ek_f (rn_c2 (by omega)) (fun k2 => by rw [if_pos k2] at h; rw [k1]; exact h) (fun k2 => ?_)
  rw [if_neg k2] at h
  refine rx_nb _ (s := s - 1) (p := 0) (rn_cs (by omega)) rfl (by omega) (by omega) (rI_ps I) (rI_fr I) ?_
  rw [show s - 1 + 1 = s by omega]
  exact h
end
end
section
/-! CROSSINGS: X's readers, on -/
theorem rn_D12 : ∀ v, v < 13 → rd_D v ≤ 30 := by decide
section
variable {ln fm tt le li rk we op ca mk wd wn fa pc ph pa pe pt se ls mo tp ac sz dw st ty ed fr sp go nz tk en ch nw ps pg cf ct la gr cr ne nl oe ol fl tl : Nat → Nat} {tn kn N : Nat} {th : Int32} {gp fs : Nat → Int32}
theorem rI_fre (I : (rq_I ln fm tt le li rk we op mk wd wn pc ph pa pe pt se ls mo tp ac sz dw st ty ed fr sp go tk en ch ps pg cf ct la gr cr ne nl oe ol fl tl tn N)) {c : Nat} (hc : c < 32) (h2 : st c = 2) : 1 ≤ fr c ∧ fr c ≤ le (ed c) := by
  obtain ⟨q1, q2, q3, q4, q5, q6⟩ := rq_psE I.1.2.1 hc h2
  have := (I.2.2.2.2.2.2 c hc).1 q2
  rw [q1] at this
  exact this
theorem rI_leB (I : (rq_L ln fm tt le li rk we op mk wd wn pc ph pa pe pt se ls mo tp ac sz dw st ty ed fr sp go tk en ch ps pg cf ct la gr cr ne nl oe ol fl tl tn N)) {s c : Nat} (hc : c < 32) : rq_le fr ps s c ≤ 32 := by
  unfold rq_le
  have L := rd_nrL (ps := ps) (fr := fr) (s := ps c) (p := fr c) 32
  have L2 := rd_nrL (ps := ps) (fr := fr) (s := s) (p := 0) 32
  split
  · split <;> omega
  · omega
/-- the two cases of the one AHEAD -/
theorem rI_leC (I : (rq_L ln fm tt le li rk we op mk wd wn pc ph pa pe pt se ls mo tp ac sz dw st ty ed fr sp go tk en ch ps pg cf ct la gr cr ne nl oe ol fl tl tn N)) {s c a : Nat} (hc : c < 32) (h2 : st c = 2) (hs : s ≤ 32) (hq : 0 < s → rd_q s ≠ ed c) (ha : rq_le fr ps s c = a + 1) : a < 32 ∧ st a = 2 ∧ ((ed a = ed c ∧ (rd_nr ps fr) (ps c) (fr c) 32 = a + 1) ∨ (ed a ≠ ed c ∧ (rd_nr ps fr) (ps c) (fr c) 32 = 0 ∧ 0 < s ∧ (rd_nr ps fr) s 0 32 = a + 1)) := by
  obtain ⟨q1, q2, q3, q4, q5, q6⟩ := rq_psE I.2.1 hc h2
  have p1 := ((rI_p I hc).2.2.2.1 h2).1
  have hO := rI_on I
  unfold rq_le at ha
  by_cases z : (rd_nr ps fr) (ps c) (fr c) 32 = 0
  · rw [if_pos z] at ha
    by_cases w : s = 0
    · rw [if_pos w] at ha; omega
    · rw [if_neg w] at ha
      rcases rd_nrS (ps := ps) (fr := fr) (s := s) (p := 0) 32 with ⟨k1, _⟩ | ⟨b, k1, k2, k3, k4, _⟩
      · omega
      · have e : b = a := by omega
        subst e
        have s2 : st b = 2 := by
          rcases Nat.decEq (st b) 2 with y | y
          · have := (hO.2 b k2).2 y; omega
          · exact y
        obtain ⟨r1, r2, r3, r4, r5, r6⟩ := rq_psE I.2.1 k2 s2
        refine ⟨k2, s2, Or.inr ⟨?_, z, by omega, k1⟩⟩
        rw [← r1, k3]
        exact hq (by omega)
  · rw [if_neg z] at ha
    rcases rd_nrS (ps := ps) (fr := fr) (s := ps c) (p := fr c) 32 with ⟨k1, _⟩ | ⟨b, k1, k2, k3, k4, _⟩
    · omega
    · have e : b = a := by omega
      subst e
      obtain ⟨a1, a2, a3⟩ := (rq_onI hO k2 (l := la c) (e := ed c) q6).mpr (by rw [k3]; exact p1)
      exact ⟨k2, a1, Or.inl ⟨a2, k1⟩⟩
theorem rq_csE {s c : Nat} (s0 : 0 < s) : (rq_cs le ed fr sp go ps (fun x => sz (ty x))) s c ↔ (go c ≠ rd_q s → rd_D (sp c) + fr c ≤ le (ed c) + le (rd_q s)) ∧ (∀ a, rq_le fr ps s c = a + 1 → ((rd_nr ps fr) (ps c) (fr c) 32 = a + 1 → rd_Fo (fr c) (sp c) (fr a) (sp a) (sz (ty a))) ∧ ((rd_nr ps fr) (ps c) (fr c) 32 = 0 → rd_Fo (fr c) (sp c) (fr a + le (ed c)) (sp a) (sz (ty a)))) := by
  unfold rq_le
  constructor
  · rintro ⟨h1, h2, h3⟩
    refine ⟨h1, fun a ha => ⟨fun w => h2 a w, fun w => ?_⟩⟩
    rw [if_pos w, if_neg (by omega)] at ha
    exact h3 w a ha
  · rintro ⟨h1, h2⟩
    refine ⟨h1, fun a ha => ?_, fun w b hb => ?_⟩
    · exact (h2 a (by rw [if_neg (by omega)]; exact ha)).1 ha
    · exact (h2 b (by rw [if_pos w, if_neg (by omega)]; exact hb)).2 w
theorem rd_FoY {p v q w s k : Nat} : (0 ≤ (q : Int) - s - 1 - p + k ∧ (rd_D v : Int) ≤ (q : Int) - s - 1 - p + k + rd_D w) ↔ rd_Fo p v (q + k) w s := by
  unfold rd_Fo
  omega
theorem rx_cs (post : Int32 → Prop) {c : Nat} {x : Int32} (hx : x = nI c) (I : (rq_I ln fm tt le li rk we op mk wd wn pc ph pa pe pt se ls mo tp ac sz dw st ty ed fr sp go tk en ch ps pg cf ct la gr cr ne nl oe ol fl tl tn N)) (hc : c < 32) (h2 : st c = 2) (hn : 0 < (rq_nx wn ed go) c) (h : post (rb_ ((rq_cs le ed fr sp go ps (fun x => sz (ty x))) ((rq_as ln) ((rq_nx wn ed go) c) (ps c)) c))) : wpX_canCrossSafely post (nI tn, rn_A ln, rn_A fm, rn_A tt, rn_A le, rn_A li, rn_A rk, rn_A we, rn_A op, rn_A ca, rn_A mk, rn_B wd, rn_B wn, rn_A pc, rn_A ph, rn_A pa, rn_A pe, rn_A pt, rn_A tp, rn_A ac, rn_A sz, rn_A dw, rn_A st, rn_A ty, rn_A ed, rn_B ps, rn_A fr, rn_A sp, rn_A go, rn_A nz, rn_B pg, rn_B cf, rn_B ct, rn_A tk, rn_A en, rn_B ch, rn_A nw, rn_A tl) x := by
  subst hx
  have A := rI_c I.1 c
  have B := rI_e I.1 (ed c)
  obtain ⟨s1, s2, s3⟩ := rI_as I.1 hc h2
  obtain ⟨t1, t2, t3, t4, t5, t6⟩ := s2 hn
  have F := rI_fre I hc h2
  have q6 : rd_q ((rq_as ln) ((rq_nx wn ed go) c) (ps c)) < 16 := by have := (rI_nx I.1 c).1; omega
  have C := rI_e I.1 (rd_q ((rq_as ln) ((rq_nx wn ed go) c) (ps c)))
  unfold wpX_canCrossSafely
  refine rx_sa _ rfl I.1 hc h2 ?_
  rw [rb_e (rq_csE t1)] at h
  generalize hs : (rq_as ln) ((rq_nx wn ed go) c) (ps c) = s at *
  have d1 := rn_D12 (sp c) (by omega)
  have gb : -100000 < rq_ge le ed fr go s c ∧ rq_ge le ed fr go s c < 100000 := by
    unfold rq_ge
    split <;> split <;> omega
  refine rx_ge _ rfl rfl I.1 hc s1 ⟨pk_in c 32 hc, rx_safe _ (v := sp c) (w := 0) (by omega) (by omega) gb ?_ |> fun z => by rw [rn_rA (by omega)]; exact z⟩
  have en : (0 ≤ rq_ge le ed fr go s c ∧ (rd_D (sp c) : Int) ≤ rq_ge le ed fr go s c + rd_D 0) ↔ (go c ≠ rd_q s → rd_D (sp c) + fr c ≤ le (ed c) + le (rd_q s)) := by
    unfold rq_ge
    rw [if_neg (by omega), rd_D0]
    by_cases z : go c = rd_q s
    · rw [if_pos z]
      exact ⟨fun _ w => absurd z w, fun _ => by omega⟩
    · rw [if_neg z]
      constructor
      · intro w _; omega
      · intro w; have := w z; omega
  rw [rb_e en]
  refine rb_b (fun k1 => rb_p0 h (fun w => k1 w.1)) (fun k1 => rx_le _ rfl rfl I.1 hc h2 s1 ?_)
  have L := rI_leB I.1 (s := s) hc
  refine ek_f (rn_c2 (by omega)) (fun k2 => rb_p1 h ⟨k1, fun a ha => by omega⟩) (fun k2 => ?_)
  obtain ⟨a, ha⟩ : ∃ a, rq_le fr ps s c = a + 1 := ⟨rq_le fr ps s c - 1, by omega⟩
  obtain ⟨a1, a2, a3⟩ := rI_leC I.1 hc h2 s1 (fun _ => by rw [t2]; exact t4) ha
  have D := rI_c I.1 a
  have U := rI_y I.1 a
  rw [ha]
  have r1 : rn_A sp (rn_c (a + 1)).toNatClampNeg = nI (sp a) := rn_rA (by omega)
  have one : ∀ b, rq_le fr ps s c = b + 1 → b = a := fun b hb => by omega
  rcases a3 with ⟨e1, e2⟩ | ⟨e1, e2, e3, e4⟩
  · refine rx_gp _ rfl rfl I.1 hc a1 e1 ⟨pk_in c 32 hc, pk_in a 32 a1, ?_⟩
    rw [r1]
    refine rx_safe _ (by omega) (by omega) (by omega) ⟨rb_n _, ?_⟩
    rw [rb_e rd_FoZ]
    have q : ((go c ≠ rd_q s → rd_D (sp c) + fr c ≤ le (ed c) + le (rd_q s)) ∧ (∀ a, rq_le fr ps s c = a + 1 → ((rd_nr ps fr) (ps c) (fr c) 32 = a + 1 → rd_Fo (fr c) (sp c) (fr a) (sp a) (sz (ty a))) ∧ ((rd_nr ps fr) (ps c) (fr c) 32 = 0 → rd_Fo (fr c) (sp c) (fr a + le (ed c)) (sp a) (sz (ty a))))) ↔ rd_Fo (fr c) (sp c) (fr a) (sp a) (sz (ty a)) := by
      constructor
      · intro w; exact (w.2 a ha).1 e2
      · intro w
        refine ⟨k1, fun b hb => ?_⟩
        rw [one b hb]
        exact ⟨fun _ => w, fun y => by omega⟩
    rw [rb_e q] at h
    exact h
  · refine rx_gq _ rfl rfl I.1 hc a1 e1 ⟨pk_in c 32 hc, pk_in a 32 a1, ?_⟩
    rw [r1]
    refine rx_safe _ (by omega) (by omega) (by omega) ⟨rb_n _, ?_⟩
    rw [rb_e rd_FoY]
    have q : ((go c ≠ rd_q s → rd_D (sp c) + fr c ≤ le (ed c) + le (rd_q s)) ∧ (∀ a, rq_le fr ps s c = a + 1 → ((rd_nr ps fr) (ps c) (fr c) 32 = a + 1 → rd_Fo (fr c) (sp c) (fr a) (sp a) (sz (ty a))) ∧ ((rd_nr ps fr) (ps c) (fr c) 32 = 0 → rd_Fo (fr c) (sp c) (fr a + le (ed c)) (sp a) (sz (ty a))))) ↔ rd_Fo (fr c) (sp c) (fr a + le (ed c)) (sp a) (sz (ty a)) := by
      constructor
      · intro w; exact (w.2 a ha).2 e2
      · intro w
        refine ⟨k1, fun b hb => ?_⟩
        rw [one b hb]
        exact ⟨fun y => by omega, fun _ => w⟩
    rw [rb_e q] at h
    exact h
theorem rx_bd (post : Int32 → Prop) {c j : Nat} {x y : Int32} (hx : x = nI c) (hy : y = nI j) (I : (rq_L ln fm tt le li rk we op mk wd wn pc ph pa pe pt se ls mo tp ac sz dw st ty ed fr sp go tk en ch ps pg cf ct la gr cr ne nl oe ol fl tl tn N)) (hc : c < 32) (hj : j < 8) (h : post (rb_ ((rq_bd tt ed pg) j c))) : wpX_isBound post (nI tn, rn_A ln, rn_A fm, rn_A tt, rn_A le, rn_A li, rn_A rk, rn_A we, rn_A op, rn_A ca, rn_A mk, rn_B wd, rn_B wn, rn_A pc, rn_A ph, rn_A pa, rn_A pe, rn_A pt, rn_A tp, rn_A ac, rn_A sz, rn_A dw, rn_A st, rn_A ty, rn_A ed, rn_B ps, rn_A fr, rn_A sp, rn_A go, rn_A nz, rn_B pg, rn_B cf, rn_B ct, rn_A tk, rn_A en, rn_B ch, rn_A nw, rn_A tl) x y := by
  subst hx hy
  have A := rI_c I c
  have B := rI_e I (ed c)
  have P := rI_pg I c hc
  refine ⟨pk_in c 32 hc, ek_f (rn_2 (rn_rB (by omega)) (b := 0) rfl (by omega) (by omega)) (fun k1 => rb_p0 h (fun w => w.1 k1)) (fun k1 => ⟨pk_in c 32 hc, rn_iA (by omega) A.2.2.1 (by omega), ?_⟩)⟩
  exact ek_f (rn_e (rn_AA (by omega) (by omega)) (b := j) rfl (by omega) (by omega)) (fun k2 => rb_p1 h ⟨k1, k2⟩) (fun k2 => rb_p0 h (fun w => k2 w.2))
theorem rx_hd (post : Int32 → Prop) {c j : Nat} {x y : Int32} (hx : x = nI c) (hy : y = nI j) (I : (rq_L ln fm tt le li rk we op mk wd wn pc ph pa pe pt se ls mo tp ac sz dw st ty ed fr sp go tk en ch ps pg cf ct la gr cr ne nl oe ol fl tl tn N)) (hc : c < 32) (hj : j < 8) (h : post (rb_ ((rq_hd fm tt ed fr pg cf (fun x => sz (ty x))) j c))) : wpX_holds post (nI tn, rn_A ln, rn_A fm, rn_A tt, rn_A le, rn_A li, rn_A rk, rn_A we, rn_A op, rn_A ca, rn_A mk, rn_B wd, rn_B wn, rn_A pc, rn_A ph, rn_A pa, rn_A pe, rn_A pt, rn_A tp, rn_A ac, rn_A sz, rn_A dw, rn_A st, rn_A ty, rn_A ed, rn_B ps, rn_A fr, rn_A sp, rn_A go, rn_A nz, rn_B pg, rn_B cf, rn_B ct, rn_A tk, rn_A en, rn_B ch, rn_A nw, rn_A tl) x y := by
  subst hx hy
  have A := rI_c I c
  have B := rI_e I (ed c)
  have P := (rI_p I hc).2.2.1
  have S := rI_y I c
  have h44 : ¬ (cf c ≠ 0 ∧ fm (ed c) = j ∧ fr c < sz (ty c)) → wX_holds_44 post (nI c) (nI j) (nI tn) (rn_A ln) (rn_A fm) (rn_A tt) (rn_A le) (rn_A li) (rn_A rk) (rn_A we) (rn_A op) (rn_A ca) (rn_A mk) (rn_B wd) (rn_B wn) (rn_A pc) (rn_A ph) (rn_A pa) (rn_A pe) (rn_A pt) (rn_A tp) (rn_A ac) (rn_A sz) (rn_A dw) (rn_A st) (rn_A ty) (rn_A ed) (rn_B ps) (rn_A fr) (rn_A sp) (rn_A go) (rn_A nz) (rn_B pg) (rn_B cf) (rn_B ct) (rn_A tk) (rn_A en) (rn_B ch) (rn_A nw) (rn_A tl) := fun w => br_t rfl (rx_bd _ rfl rfl I hc hj (rb_b (fun k => rb_p0 h (fun v => v.elim w k)) (fun k => rb_p1 h (Or.inr k))))
  refine ⟨pk_in c 32 hc, ek_f (rn_2 (rn_rB (by omega)) (b := 0) rfl (by omega) (by omega)) (fun k1 => h44 (fun w => w.1 k1)) (fun k1 => ⟨pk_in c 32 hc, rn_iA (by omega) A.2.2.1 (by omega), ?_⟩)⟩
  refine ek_f (rn_e (rn_AA (by omega) (by omega)) (b := j) rfl (by omega) (by omega)) (fun k2 => ⟨pk_in c 32 hc, rx_sz _ rfl hc (fun c => (rI_c I c).2.1) ?_⟩) (fun k2 => h44 (fun w => k2 w.2.1))
  exact pk_le (sz (ty c)) (fr c) (fun k3 => h44 (fun w => by have := w.2.2; omega)) (fun k3 => br_f (by decide) (rb_p1 h (Or.inl ⟨k1, k2, k3⟩))) rfl (rn_rA (by omega))
theorem rx_hf (post : Int32 → Prop) {c j : Nat} {x y : Int32} (hx : x = nI c) (hy : y = nI j) (I : (rq_L ln fm tt le li rk we op mk wd wn pc ph pa pe pt se ls mo tp ac sz dw st ty ed fr sp go tk en ch ps pg cf ct la gr cr ne nl oe ol fl tl tn N)) (hc : c < 32) (hj : j < 8) (h : post (rn_c ((rq_hf tt ed ps pg cf) j c))) : wpX_heldFrom post (nI tn, rn_A ln, rn_A fm, rn_A tt, rn_A le, rn_A li, rn_A rk, rn_A we, rn_A op, rn_A ca, rn_A mk, rn_B wd, rn_B wn, rn_A pc, rn_A ph, rn_A pa, rn_A pe, rn_A pt, rn_A tp, rn_A ac, rn_A sz, rn_A dw, rn_A st, rn_A ty, rn_A ed, rn_B ps, rn_A fr, rn_A sp, rn_A go, rn_A nz, rn_B pg, rn_B cf, rn_B ct, rn_A tk, rn_A en, rn_B ch, rn_A nw, rn_A tl) x y := by
  subst hx hy
  unfold wpX_heldFrom
  unfold rq_hf at h
  refine rx_bd _ rfl rfl I hc hj (rb_b (fun k => ⟨pk_in c 32 hc, ?_⟩) (fun k => ⟨pk_in c 32 hc, ?_⟩))
  · rw [if_neg k] at h; rw [rn_rB (by omega)]; exact h
  · rw [if_pos k] at h; rw [rn_rB (by omega)]; exact h
theorem rx_ht (post : Int32 → Prop) {c j : Nat} {x y : Int32} (hx : x = nI c) (hy : y = nI j) (I : (rq_L ln fm tt le li rk we op mk wd wn pc ph pa pe pt se ls mo tp ac sz dw st ty ed fr sp go tk en ch ps pg cf ct la gr cr ne nl oe ol fl tl tn N)) (hc : c < 32) (hj : j < 8) (h : post (rn_c ((rq_ht tt ed pg ct) j c))) : wpX_heldTo post (nI tn, rn_A ln, rn_A fm, rn_A tt, rn_A le, rn_A li, rn_A rk, rn_A we, rn_A op, rn_A ca, rn_A mk, rn_B wd, rn_B wn, rn_A pc, rn_A ph, rn_A pa, rn_A pe, rn_A pt, rn_A tp, rn_A ac, rn_A sz, rn_A dw, rn_A st, rn_A ty, rn_A ed, rn_B ps, rn_A fr, rn_A sp, rn_A go, rn_A nz, rn_B pg, rn_B cf, rn_B ct, rn_A tk, rn_A en, rn_B ch, rn_A nw, rn_A tl) x y := by
  subst hx hy
  unfold wpX_heldTo
  unfold rq_ht at h
  refine rx_bd _ rfl rfl I hc hj (rb_b (fun k => ⟨pk_in c 32 hc, ?_⟩) (fun k => ⟨pk_in c 32 hc, ?_⟩))
  · rw [if_neg k] at h; rw [rn_rB (by omega)]; exact h
  · rw [if_pos k] at h; rw [rn_rB (by omega)]; exact h
/-- the codes of one that HOLDS, within -/
theorem rI_hB (I : (rq_L ln fm tt le li rk we op mk wd wn pc ph pa pe pt se ls mo tp ac sz dw st ty ed fr sp go tk en ch ps pg cf ct la gr cr ne nl oe ol fl tl tn N)) {j d : Nat} (hd : d < 32) (h : (rq_hd fm tt ed fr pg cf (fun x => sz (ty x))) j d) : (rq_hf tt ed ps pg cf) j d ≤ 32 ∧ (rq_ht tt ed pg ct) j d ≤ 32 ∧ 0 < (rq_hf tt ed ps pg cf) j d ∧ st d = 2 := by
  have P := rI_p I hd
  have A := rI_c I d
  obtain ⟨_, _, b3, b4, b5⟩ := I.2.1.2 d hd
  unfold rq_hf rq_ht
  by_cases z : (rq_bd tt ed pg) j d
  · rw [if_pos z, if_pos z]
    have g := rq_pgS I.2.1 hd (by have := z.1; omega)
    have := (P.2.2.2.1 g.1).1
    exact ⟨P.1, P.2.1, by omega, g.1⟩
  · rw [if_neg z, if_neg z]
    rcases h with h | h
    · have s2 : st d = 2 := by
        rcases Nat.decEq (st d) 2 with q | q
        · have := (b3 q).2.2; exact absurd this h.1
        · exact q
      rcases b5 s2 with q | q
      · exact absurd q.1 h.1
      · omega
    · exact absurd h z
theorem rx_or (post : Int32 → Prop) {c : Nat} {x y : Int32} (hx : x = nI c) (I : (rq_L ln fm tt le li rk we op mk wd wn pc ph pa pe pt se ls mo tp ac sz dw st ty ed fr sp go tk en ch ps pg cf ct la gr cr ne nl oe ol fl tl tn N)) (hc : c < 32) (h : post (rb_ (∃ d, d < 32 ∧ bt y d = true ∧ ps d ≠ ps c ∧ (rq_bf rk le ed fr ps) d c))) : wpX_isOutrun post (nI tn, rn_A ln, rn_A fm, rn_A tt, rn_A le, rn_A li, rn_A rk, rn_A we, rn_A op, rn_A ca, rn_A mk, rn_B wd, rn_B wn, rn_A pc, rn_A ph, rn_A pa, rn_A pe, rn_A pt, rn_A tp, rn_A ac, rn_A sz, rn_A dw, rn_A st, rn_A ty, rn_A ed, rn_B ps, rn_A fr, rn_A sp, rn_A go, rn_A nz, rn_B pg, rn_B cf, rn_B ct, rn_A tk, rn_A en, rn_B ch, rn_A nw, rn_A tl) x y := by
  subst hx
  have P := rI_ps I c hc
  refine loop_0 (fun n i (_ : Unit) => wX_isOutrun_2 post (nI c) y (nI tn) (rn_A ln) (rn_A fm) (rn_A tt) (rn_A le) (rn_A li) (rn_A rk) (rn_A we) (rn_A op) (rn_A ca) (rn_A mk) (rn_B wd) (rn_B wn) (rn_A pc) (rn_A ph) (rn_A pa) (rn_A pe) (rn_A pt) (rn_A tp) (rn_A ac) (rn_A sz) (rn_A dw) (rn_A st) (rn_A ty) (rn_A ed) (rn_B ps) (rn_A fr) (rn_A sp) (rn_A go) (rn_A nz) (rn_B pg) (rn_B cf) (rn_B ct) (rn_A tk) (rn_A en) (rn_B ch) (rn_A nw) (rn_A tl) n (nI i)) (fun i _ => ∀ d, d < i → ¬ (bt y d = true ∧ ps d ≠ ps c ∧ (rq_bf rk le ed fr ps) d c)) 32 () (fun c hc => absurd hc (Nat.not_lt_zero c)) ?_ ?_
  · intro n _ e
    exact br_t (by decide) (rb_p0 h (fun ⟨d, d1, d2⟩ => e d d1 d2))
  · intro n i _ hi e ih
    have P' := rI_ps I i hi
    refine pk_le 32 i (fun z => by omega) (fun _ => ?_)
    refine ek_f (rd_st1 y hi) (fun e1 => ⟨pk_in i 32 hi, pk_in c 32 hc, ?_⟩) (fun e1 => nm_r (nI_1 i) (ih () (lt_s e (fun w => e1 w.1))))
    refine ek_f (rn_2 (rn_rB (by omega)) (rn_rB (by omega)) (by omega) (by omega)) (fun e2 => nm_r (nI_1 i) (ih () (lt_s e (fun w => w.2.1 e2)))) (fun e2 => ?_)
    exact rx_bf _ rfl rfl I hi hc (rb_b (fun e3 => nm_r (nI_1 i) (ih () (lt_s e (fun w => e3 w.2.2)))) (fun e3 => rb_p1 h ⟨i, hi, e1, e2, e3⟩))
theorem rx_mh (post : Int32 → Prop) {c j : Nat} {x y w : Int32} (hx : x = nI c) (hy : y = nI j) (I : (rq_L ln fm tt le li rk we op mk wd wn pc ph pa pe pt se ls mo tp ac sz dw st ty ed fr sp go tk en ch ps pg cf ct la gr cr ne nl oe ol fl tl tn N)) (hc : c < 32) (h2 : st c = 2) (hj : j < 8) (h : post (rb_ ((rq_mh fm tt rk le ed fr ps pg cf ct (fun x => sz (ty x))) (fun d => bt w d = true) j ((rq_as ln) ((rq_nx wn ed go) c) (ps c)) c))) : wpX_mayHold post (nI tn, rn_A ln, rn_A fm, rn_A tt, rn_A le, rn_A li, rn_A rk, rn_A we, rn_A op, rn_A ca, rn_A mk, rn_B wd, rn_B wn, rn_A pc, rn_A ph, rn_A pa, rn_A pe, rn_A pt, rn_A tp, rn_A ac, rn_A sz, rn_A dw, rn_A st, rn_A ty, rn_A ed, rn_B ps, rn_A fr, rn_A sp, rn_A go, rn_A nz, rn_B pg, rn_B cf, rn_B ct, rn_A tk, rn_A en, rn_B ch, rn_A nw, rn_A tl) x y w := by
  subst hx hy
  have P := rI_ps I c hc
  obtain ⟨s1, s2, s3⟩ := rI_as I hc h2
  unfold wpX_mayHold
  refine rx_sa _ rfl I hc h2 ?_
  generalize hs : (rq_as ln) ((rq_nx wn ed go) c) (ps c) = s at *
  refine loop_0 (fun n i (b : Nat) => wX_mayHold_13 post (nI c) (nI j) w (rn_c s) (nI tn) (rn_A ln) (rn_A fm) (rn_A tt) (rn_A le) (rn_A li) (rn_A rk) (rn_A we) (rn_A op) (rn_A ca) (rn_A mk) (rn_B wd) (rn_B wn) (rn_A pc) (rn_A ph) (rn_A pa) (rn_A pe) (rn_A pt) (rn_A tp) (rn_A ac) (rn_A sz) (rn_A dw) (rn_A st) (rn_A ty) (rn_A ed) (rn_B ps) (rn_A fr) (rn_A sp) (rn_A go) (rn_A nz) (rn_B pg) (rn_B cf) (rn_B ct) (rn_A tk) (rn_A en) (rn_B ch) (rn_A nw) (rn_A tl) n (nI b) (nI i)) (fun i b => b ≤ 1 ∧ (∀ d, d < i → (rq_hd fm tt ed fr pg cf (fun x => sz (ty x))) j d → (rq_hf tt ed ps pg cf) j d = ps c ∧ (rq_ht tt ed pg ct) j d = s) ∧ (b = 1 ↔ ∃ d, d < i ∧ (rq_hd fm tt ed fr pg cf (fun x => sz (ty x))) j d)) 32 0 ⟨by omega, fun d hd => absurd hd (Nat.not_lt_zero d), fun z => by omega, fun ⟨d, hd, _⟩ => absurd hd (Nat.not_lt_zero d)⟩ ?_ ?_
  · rintro n b ⟨b1, b2, b3⟩
    refine br_t (by decide) (ek_f (rn_e rfl (b := 0) rfl (by omega) (by omega)) (fun z => rb_p1 h ⟨b2, fun v => by have := b3.mpr v; omega⟩) (fun z => ?_))
    refine rx_or _ rfl I hc (rb_b (fun q => rb_p1 h ⟨b2, fun _ d d1 d2 d3 d4 => q ⟨d, d1, d2, d3, d4⟩⟩) (fun ⟨d, d1, d2, d3, d4⟩ => rb_p0 h (fun v => v.2 (b3.mp (by omega)) d d1 d2 d3 d4)))
  · rintro n i b hi ⟨b1, b2, b3⟩ ih
    refine pk_le 32 i (fun z => by omega) (fun _ => rx_hd _ rfl rfl I hi hj (rb_b (fun k1 => nm_r (nI_1 i) (ih b ⟨b1, lt_s b2 (fun v => absurd v k1), ?_⟩)) (fun k1 => ?_)))
    · rw [b3]
      constructor
      · rintro ⟨d, d1, d2⟩; exact ⟨d, by omega, d2⟩
      · rintro ⟨d, d1, d2⟩
        rcases Nat.decEq d i with q | q
        · exact ⟨d, by omega, d2⟩
        · subst q; exact absurd d2 k1
    · obtain ⟨g1, g2, g3, g4⟩ := rI_hB I hi k1
      refine rx_hf _ rfl rfl I hi hj ⟨pk_in c 32 hc, ?_⟩
      refine ek_f (rn_2 rfl (rn_rB (by omega)) (by omega) (by omega)) (fun k2 => rx_ht _ rfl rfl I hi hj ?_) (fun k2 => rb_p0 h (fun v => k2 (v.1 i hi k1).1))
      refine ek_f (rn_2 rfl rfl (by omega) (by omega)) (fun k3 => nm_r (nI_1 i) (ih 1 ⟨by omega, lt_s b2 (fun _ => ⟨k2, k3⟩), fun _ => ⟨i, by omega, k1⟩, fun _ => rfl⟩)) (fun k3 => rb_p0 h (fun v => k3 (v.1 i hi k1).2))
theorem rx_1st (post : Int32 → Prop) {j : Nat} {x w : Int32} (hx : x = nI j) (I : (rq_I ln fm tt le li rk we op mk wd wn pc ph pa pe pt se ls mo tp ac sz dw st ty ed fr sp go tk en ch ps pg cf ct la gr cr ne nl oe ol fl tl tn N)) (hj : j < 8) (hw : ∀ c, c < 32 → bt w c = true → st c = 2 ∧ 0 < (rq_nx wn ed go) c) (h : post (rn_c (rq_1st (fun c => bt w c = true ∧ (rq_cs le ed fr sp go ps (fun x => sz (ty x))) ((rq_as ln) ((rq_nx wn ed go) c) (ps c)) c ∧ (rq_mh fm tt rk le ed fr ps pg cf ct (fun x => sz (ty x))) (fun d => bt w d = true) j ((rq_as ln) ((rq_nx wn ed go) c) (ps c)) c) (rq_bf rk le ed fr ps) 32))) : wpX_firstThatCan post (nI tn, rn_A ln, rn_A fm, rn_A tt, rn_A le, rn_A li, rn_A rk, rn_A we, rn_A op, rn_A ca, rn_A mk, rn_B wd, rn_B wn, rn_A pc, rn_A ph, rn_A pa, rn_A pe, rn_A pt, rn_A tp, rn_A ac, rn_A sz, rn_A dw, rn_A st, rn_A ty, rn_A ed, rn_B ps, rn_A fr, rn_A sp, rn_A go, rn_A nz, rn_B pg, rn_B cf, rn_B ct, rn_A tk, rn_A en, rn_B ch, rn_A nw, rn_A tl) x w := by
  subst hx
  refine loop_0 (fun n i (b : Nat) => wX_firstThatCan_6 post (nI j) w (nI tn) (rn_A ln) (rn_A fm) (rn_A tt) (rn_A le) (rn_A li) (rn_A rk) (rn_A we) (rn_A op) (rn_A ca) (rn_A mk) (rn_B wd) (rn_B wn) (rn_A pc) (rn_A ph) (rn_A pa) (rn_A pe) (rn_A pt) (rn_A tp) (rn_A ac) (rn_A sz) (rn_A dw) (rn_A st) (rn_A ty) (rn_A ed) (rn_B ps) (rn_A fr) (rn_A sp) (rn_A go) (rn_A nz) (rn_B pg) (rn_B cf) (rn_B ct) (rn_A tk) (rn_A en) (rn_B ch) (rn_A nw) (rn_A tl) n (rn_c b) (nI i)) (fun i b => b = rq_1st (fun c => bt w c = true ∧ (rq_cs le ed fr sp go ps (fun x => sz (ty x))) ((rq_as ln) ((rq_nx wn ed go) c) (ps c)) c ∧ (rq_mh fm tt rk le ed fr ps pg cf ct (fun x => sz (ty x))) (fun d => bt w d = true) j ((rq_as ln) ((rq_nx wn ed go) c) (ps c)) c) (rq_bf rk le ed fr ps) i) 32 0 rfl ?_ ?_
  · intro n b e
    rw [← e] at h
    exact br_t (by decide) h
  · intro n i b hi e ih
    have F := rq_1stS (fun c => bt w c = true ∧ (rq_cs le ed fr sp go ps (fun x => sz (ty x))) ((rq_as ln) ((rq_nx wn ed go) c) (ps c)) c ∧ (rq_mh fm tt rk le ed fr ps pg cf ct (fun x => sz (ty x))) (fun d => bt w d = true) j ((rq_as ln) ((rq_nx wn ed go) c) (ps c)) c) (rq_bf rk le ed fr ps) i
    rw [← e] at F
    have b32 : b ≤ i := by rcases F with f | ⟨a, f1, f2, _⟩ <;> omega
    refine pk_le 32 i (fun z => by omega) (fun _ => ?_)
    refine ek_f (rd_st1 w hi) (fun e1 => ?_) (fun e1 => nm_r (nI_1 i) (ih b (by rw [rq_1stN (fun v => e1 v.1.1)]; exact e)))
    obtain ⟨w1, w2⟩ := hw i hi e1
    have s39 : (b = 0 ∨ (rq_bf rk le ed fr ps) i (b - 1)) → wX_firstThatCan_39 post (wX_firstThatCan_6 post (nI j) w (nI tn) (rn_A ln) (rn_A fm) (rn_A tt) (rn_A le) (rn_A li) (rn_A rk) (rn_A we) (rn_A op) (rn_A ca) (rn_A mk) (rn_B wd) (rn_B wn) (rn_A pc) (rn_A ph) (rn_A pa) (rn_A pe) (rn_A pt) (rn_A tp) (rn_A ac) (rn_A sz) (rn_A dw) (rn_A st) (rn_A ty) (rn_A ed) (rn_B ps) (rn_A fr) (rn_A sp) (rn_A go) (rn_A nz) (rn_B pg) (rn_B cf) (rn_B ct) (rn_A tk) (rn_A en) (rn_B ch) (rn_A nw) (rn_A tl) n) (nI j) w (rn_c b) (nI i) (nI tn) (rn_A ln) (rn_A fm) (rn_A tt) (rn_A le) (rn_A li) (rn_A rk) (rn_A we) (rn_A op) (rn_A ca) (rn_A mk) (rn_B wd) (rn_B wn) (rn_A pc) (rn_A ph) (rn_A pa) (rn_A pe) (rn_A pt) (rn_A tp) (rn_A ac) (rn_A sz) (rn_A dw) (rn_A st) (rn_A ty) (rn_A ed) (rn_B ps) (rn_A fr) (rn_A sp) (rn_A go) (rn_A nz) (rn_B pg) (rn_B cf) (rn_B ct) (rn_A tk) (rn_A en) (rn_B ch) (rn_A nw) (rn_A tl) := by
      intro k
      refine rx_cs _ rfl I hi w1 w2 (rb_b (fun q => nm_r (nI_1 i) (ih b (by rw [rq_1stN (fun v => q v.1.2.1)]; exact e))) (fun q => ?_))
      refine rx_mh _ rfl rfl I.1 hi w1 hj (rb_b (fun q2 => nm_r (nI_1 i) (ih b (by rw [rq_1stN (fun v => q2 v.1.2.2)]; exact e))) (fun q2 => nm_r (nI_1 i) (ih (i + 1) ?_)))
      rw [rq_1stP ⟨⟨e1, q, q2⟩, by rw [← e]; exact k⟩]
    refine ek_f (rn_c2 (by omega)) (fun e2 => s39 (Or.inl e2)) (fun e2 => ?_)
    refine rx_bf _ rfl (rn_cs (by omega)) I.1 hi (by omega) (rb_b (fun e3 => nm_r (nI_1 i) (ih b ?_)) (fun e3 => s39 (Or.inr e3)))
    rw [rq_1stN (fun v => by rw [← e] at v; exact v.2.elim e2 e3)]; exact e
end
end
section
/-! CROSSINGS: Y's readers -/
section
variable {ln fm tt le li rk we op ca mk wd wn fa pc ph pa pe pt se ls mo tp ac sz dw st ty ed fr sp go nz tk en ch nw ps pg cf ct la gr cr ne nl oe ol fl tl : Nat → Nat} {tn kn N : Nat} {th : Int32} {gp fs : Nat → Int32}
theorem ry_as (post : Int32 → SY → Prop) {c j : Nat} {x y : Int32} (hx : x = nI c) (hy : y = nI j) (I : (rq_L ln fm tt le li rk we op mk wd wn pc ph pa pe pt se ls mo tp ac sz dw st ty ed fr sp go tk en ch ps pg cf ct la gr cr ne nl oe ol fl tl tn N)) (hW : (rq_WY ln fm tt le li we op mk fa kn)) (hc : c < 32) (hj : j < 8) (H : ∀ kn fa, (rq_WY ln fm tt le li we op mk fa kn) → post (rb_ ((rq_ask ln fm tt le mk wn pc ph pe st ed fr go ps pg) j c)) (nI kn, nI tn, th, rn_T ln, rn_A op, rn_A fm, rn_A tt, rn_A le, rn_A ln, rn_A li, rn_A rk, rn_A we, rn_A ca, rn_A mk, rn_A fa, rn_A tp, rn_A ac, rn_A sz, rn_A dw, rn_A st, rn_A ty, rn_A ed, rn_A la, rn_A fr, rn_A sp, rn_A go, rn_A nz, rn_A tk, rn_C ch, rn_A en, rn_A nw, rn_A gr, rn_A cr, rn_A ne, rn_A nl, rn_A oe, rn_A ol, rn_A fl, rn_A pc, rn_A ph, rn_A pa, rn_A se, rn_A ls, rn_A mo, rn_A tl, gp, fs)) : wpY_asks post (nI kn, nI tn, th, rn_T ln, rn_A op, rn_A fm, rn_A tt, rn_A le, rn_A ln, rn_A li, rn_A rk, rn_A we, rn_A ca, rn_A mk, rn_A fa, rn_A tp, rn_A ac, rn_A sz, rn_A dw, rn_A st, rn_A ty, rn_A ed, rn_A la, rn_A fr, rn_A sp, rn_A go, rn_A nz, rn_A tk, rn_C ch, rn_A en, rn_A nw, rn_A gr, rn_A cr, rn_A ne, rn_A nl, rn_A oe, rn_A ol, rn_A fl, rn_A pc, rn_A ph, rn_A pa, rn_A se, rn_A ls, rn_A mo, rn_A tl, gp, fs) x y := by
  subst hx hy
  have A := rI_c I c
  have B := rI_e I (ed c)
  have P := rI_p I hc
  have G := rI_gd I c hc
  obtain ⟨x1, x2⟩ := rI_nx I c
  have no := fun n => rb_q0 (H kn fa hW) n
  refine ⟨pk_in c 32 hc, ek_f (rn_e (rn_rA (by omega)) (b := 2) rfl (by omega) (by omega)) (fun h2 => ⟨pk_in c 32 hc, ?_⟩) (fun h2 => no (fun w => h2 w.1))⟩
  obtain ⟨q1, q2, q3, q4, q5, q6⟩ := rq_psE I.2.1 hc h2
  obtain ⟨p1, p2⟩ := P.2.2.2.1 h2
  obtain ⟨s1, s2, s3⟩ := rI_as I hc h2
  refine ek_f (rn_e (rn_rA (by omega)) (b := 0) rfl (by omega) (by omega)) (fun k1 => ⟨pk_in c 32 hc, nm_r (rn_rA (by omega)) ⟨vp_in_nI (by omega) (by omega), ?_⟩⟩) (fun k1 => no (fun w => by have := w.2.2.1; omega))
  have g0 : pg c = 0 := by omega
  refine ek_f (rn_e (rn_rA (by omega)) (b := j) rfl (by omega) (by omega)) (fun k2 => ⟨pk_in c 32 hc, ?_⟩) (fun k2 => no (fun w => k2 w.2.1))
  refine ek_f (rn_e (rn_rA (by omega)) (b := ed c) rfl (by omega) (by omega)) (fun k3 => no (fun w => w.2.2.2.1 k3)) (fun k3 => ⟨vp_in_nI (by omega) (by omega), pk_in c 32 hc, ?_⟩)
  refine ek_f (ri_l (a := (le (ed c) : Int) - fr c) (by rw [rn_rA (by omega), rn_rA (by omega), ri_n, ri_n, ri_sub]) (ri_n 40) (by omega) (by omega)) (fun k4 => ?_) (fun k4 => no (fun w => by have := w.2.2.2.2.1; omega))
  refine ry_gn _ rfl I.1 I.2.2.1 A.2.2.1 (ry_nxo _ rfl I hW hc (fun kn fa hW' => ?_))
  have no := fun n => rb_q0 (H kn fa hW') n
  have yes := fun n => rb_q1 (H kn fa hW') n
  refine rb_b (fun k5 => no (fun w => k5 w.2.2.2.2.2.1)) (fun k5 => ?_)
  refine ek_f (rn_cn (by omega)) (fun k6 => no (fun w => by have := w.2.2.2.2.2.2.1; omega)) (fun k6 => ⟨pk_in c 32 hc, ?_⟩)
  have n0 : 0 < (rq_nx wn ed go) c := by omega
  obtain ⟨t1, t2, t3, t4, t5, t6⟩ := s2 n0
  have C := rI_e I ((rq_nx wn ed go) c - 1)
  refine ry_ld _ rfl (rn_rA (by omega)) (rn_cs n0) I.1 A.2.2.1 q6 (by omega) ?_
  have e1 : 2 * ed c + la c = ps c - 1 := by omega
  rw [e1]
  refine rb_b (fun k7 => no (fun w => k7 w.2.2.2.2.2.2.2.1)) (fun k7 => ⟨pk_in c 32 hc, pk_in c 32 hc, ?_⟩)
  refine ry_ab _ rfl (rn_rA (by omega)) (rn_rA (by omega)) (by omega) q6 (by omega) (rI_on I) (rI_fr I) ⟨rn_ic n0 x1 (by omega), ?_⟩
  have e2 : 2 * ed c + la c + 1 = ps c := by omega
  rw [e2]
  have L := rd_nrL (ps := ps) (fr := fr) (s := ps c) (p := fr c) 32
  have s150 : ∀ l, l ≤ 1 → (rq_as ln) ((rq_nx wn ed go) c) (ps c) = 2 * ((rq_nx wn ed go) c - 1) + l + 1 → wY_asks_150 post (rn_c ((rq_nx wn ed go) c)) (rn_y ((rd_nr ps fr) (ps c) (fr c) 32)) (nI l) (nI kn) (nI tn) th (rn_T ln) (rn_A op) (rn_A fm) (rn_A tt) (rn_A le) (rn_A ln) (rn_A li) (rn_A rk) (rn_A we) (rn_A ca) (rn_A mk) (rn_A fa) (rn_A tp) (rn_A ac) (rn_A sz) (rn_A dw) (rn_A st) (rn_A ty) (rn_A ed) (rn_A la) (rn_A fr) (rn_A sp) (rn_A go) (rn_A nz) (rn_A tk) (rn_C ch) (rn_A en) (rn_A nw) (rn_A gr) (rn_A cr) (rn_A ne) (rn_A nl) (rn_A oe) (rn_A ol) (rn_A fl) (rn_A pc) (rn_A ph) (rn_A pa) (rn_A se) (rn_A ls) (rn_A mo) (rn_A tl) gp fs := by
    intro l hl hl2
    refine ek_f (rn_yn (by omega)) (fun m1 => yes ⟨h2, k2, g0, k3, by omega, k5, n0, k7, Or.inl m1⟩) (fun m1 => ⟨rn_iy (by omega) L (by omega), ?_⟩)
    have G' := rI_gd I ((rd_nr ps fr) (ps c) (fr c) 32 - 1) (by omega)
    refine ek_f (rn_e (rn_Ay (by omega) (by omega)) (b := 0) rfl (by omega) (by omega)) (fun m2 => no (fun w => by have := w.2.2.2.2.2.2.2.2; omega)) (fun m2 => ⟨rn_iy (by omega) L (by omega), ?_⟩)
    refine ek_f (rn_e (rn_Ay (by omega) (by omega)) (rn_cs n0) (by omega) (by omega)) (fun m3 => ⟨rn_iy (by omega) L (by omega), ?_⟩) (fun m3 => no (fun w => by have := w.2.2.2.2.2.2.2.2; omega))
    exact ek_f (rn_e (rn_Ay (by omega) (by omega)) rfl (by omega) (by omega)) (fun m4 => yes ⟨h2, k2, g0, k3, by omega, k5, n0, k7, Or.inr (by omega)⟩) (fun m4 => no (fun w => by have := w.2.2.2.2.2.2.2.2; omega))
  refine ek_f (rn_e (rn_Ac n0 (by omega)) (b := 1) rfl (by omega) (by omega)) (fun k8 => s150 0 (by omega) (by rw [if_pos k8] at t5; exact t5)) (fun k8 => ⟨pk_in c 32 hc, ?_⟩)
  rw [rn_rA (by omega)]
  exact s150 (la c) q6 (by rw [if_neg k8] at t5; exact t5)
theorem ry_bf (post : Int32 → Prop) {c d : Nat} {x y : Int32} (hx : x = nI c) (hy : y = nI d) (I : (rq_L ln fm tt le li rk we op mk wd wn pc ph pa pe pt se ls mo tp ac sz dw st ty ed fr sp go tk en ch ps pg cf ct la gr cr ne nl oe ol fl tl tn N)) (hc : c < 32) (hd : d < 32) (h2 : st c = 2) (h2' : st d = 2) (h : post (rb_ ((rq_bf rk le ed fr ps) c d))) : wpY_before post (nI kn, nI tn, th, rn_T ln, rn_A op, rn_A fm, rn_A tt, rn_A le, rn_A ln, rn_A li, rn_A rk, rn_A we, rn_A ca, rn_A mk, rn_A fa, rn_A tp, rn_A ac, rn_A sz, rn_A dw, rn_A st, rn_A ty, rn_A ed, rn_A la, rn_A fr, rn_A sp, rn_A go, rn_A nz, rn_A tk, rn_C ch, rn_A en, rn_A nw, rn_A gr, rn_A cr, rn_A ne, rn_A nl, rn_A oe, rn_A ol, rn_A fl, rn_A pc, rn_A ph, rn_A pa, rn_A se, rn_A ls, rn_A mo, rn_A tl, gp, fs) x y := by
  subst hx hy
  have A := rI_c I c
  have A' := rI_c I d
  have B := rI_e I (ed c)
  have B' := rI_e I (ed d)
  have P := ((rI_p I hc).2.2.2.1 h2).1
  have P' := ((rI_p I hd).2.2.2.1 h2').1
  refine ⟨pk_in c 32 hc, nm_r (rn_rA (by omega)) ⟨pk_in d 32 hd, nm_r (rn_rA (by omega)) ⟨vp_in_nI (by omega) (by omega), vp_in_nI (by omega) (by omega), ?_⟩⟩⟩
  refine ek_f (rn_e (rn_rA (by omega)) (rn_rA (by omega)) (by omega) (by omega)) (fun k1 => ⟨vp_in_nI (by omega) (by omega), pk_in c 32 hc, nm_r (e' := ri_z ((le (ed c) : Int) - fr c)) (by rw [rn_rA (by omega), rn_rA (by omega), ri_n, ri_n, ri_sub]) ⟨vp_in_nI (by omega) (by omega), pk_in d 32 hd, nm_r (e' := ri_z ((le (ed d) : Int) - fr d)) (by rw [rn_rA (by omega), rn_rA (by omega), ri_n, ri_n, ri_sub]) ?_⟩⟩) (fun k1 => ⟨vp_in_nI (by omega) (by omega), vp_in_nI (by omega) (by omega), ?_⟩)
  · refine ek_f (ri_e rfl rfl (by omega) (by omega)) (fun k2 => ?_) (fun k2 => ?_)
    · refine ek_f (rn_e rfl rfl (by omega) (by omega)) (fun k3 => ⟨pk_in c 32 hc, pk_in d 32 hd, ?_⟩) (fun k3 => ?_)
      · exact pk_le (la d) (la c) (fun k4 => rb_p0 h (fun w => by unfold rq_bf at w; omega)) (fun k4 => rb_p1 h (Or.inr ⟨k1, Or.inr ⟨by omega, by omega⟩⟩)) (rn_rA (by omega)) (rn_rA (by omega))
      · exact pk_le (ed d) (ed c) (fun k4 => rb_p0 h (fun w => by unfold rq_bf at w; omega)) (fun k4 => rb_p1 h (Or.inr ⟨k1, Or.inr ⟨by omega, by omega⟩⟩))
    · exact ek_f (ri_l rfl rfl (by omega) (by omega)) (fun k3 => rb_p0 h (fun w => by unfold rq_bf at w; omega)) (fun k3 => rb_p1 h (Or.inr ⟨k1, Or.inl (by omega)⟩))
  · exact pk_le (rk (ed c)) (rk (ed d)) (fun k3 => rb_p0 h (fun w => by unfold rq_bf at w; omega)) (fun k3 => rb_p1 h (Or.inl k3)) (rn_rA (by omega)) (rn_rA (by omega))
/-- the lane of a GRANT begins where the own edge ends -/
theorem rI_fm (I : (rq_I ln fm tt le li rk we op mk wd wn pc ph pa pe pt se ls mo tp ac sz dw st ty ed fr sp go tk en ch ps pg cf ct la gr cr ne nl oe ol fl tl tn N)) {c : Nat} (hc : c < 32) (hg : 0 < pg c) : fm (ne c) = tt (ed c) := by
  obtain ⟨g1, g2, g3, g4, g5⟩ := rq_pgS I.1.2.1 hc hg
  have A := rI_e I.1 (ne c)
  have b := ((I.2.2.2.2.2.2 c hc).2 hg).2.1
  rw [(rq_psE I.1.2.1 hc g1).1, g3, rd_qE (by omega)] at b
  exact b
theorem ry_hd (post : Int32 → Prop) {c j : Nat} {x y : Int32} (hx : x = nI c) (hy : y = nI j) (I : (rq_I ln fm tt le li rk we op mk wd wn pc ph pa pe pt se ls mo tp ac sz dw st ty ed fr sp go tk en ch ps pg cf ct la gr cr ne nl oe ol fl tl tn N)) (hc : c < 32) (hj : j < 8) (h1 : (rq_bd tt ed pg) j c → post 1) (h2 : ¬ (rq_bd tt ed pg) j c → (cf c ≠ 0 ∧ fm (ed c) = j ∧ fr c < sz (ty c)) → post 2) (h0 : ¬ (rq_hd fm tt ed fr pg cf (fun x => sz (ty x))) j c → post 0) : wpY_holds post (nI kn, nI tn, th, rn_T ln, rn_A op, rn_A fm, rn_A tt, rn_A le, rn_A ln, rn_A li, rn_A rk, rn_A we, rn_A ca, rn_A mk, rn_A fa, rn_A tp, rn_A ac, rn_A sz, rn_A dw, rn_A st, rn_A ty, rn_A ed, rn_A la, rn_A fr, rn_A sp, rn_A go, rn_A nz, rn_A tk, rn_C ch, rn_A en, rn_A nw, rn_A gr, rn_A cr, rn_A ne, rn_A nl, rn_A oe, rn_A ol, rn_A fl, rn_A pc, rn_A ph, rn_A pa, rn_A se, rn_A ls, rn_A mo, rn_A tl, gp, fs) x y := by
  subst hx hy
  have A := rI_c I.1 c
  have B := rI_e I.1 (ed c)
  have S := rI_y I.1 c
  have P := rI_p I.1 hc
  have G := rI_gd I.1 c hc
  obtain ⟨_, _, b3, b4, b5⟩ := I.1.2.1.2 c hc
  refine ⟨pk_in c 32 hc, ek_f (rn_e (rn_rA (by omega)) (b := 2) rfl (by omega) (by omega)) (fun k1 => ⟨pk_in c 32 hc, ?_⟩) (fun k1 => h0 (fun w => ?_))⟩
  · have C5 := b5 k1
    have h38 : ¬ (rq_bd tt ed pg) j c → wY_holds_38 post (nI c) (nI j) (nI kn) (nI tn) th (rn_T ln) (rn_A op) (rn_A fm) (rn_A tt) (rn_A le) (rn_A ln) (rn_A li) (rn_A rk) (rn_A we) (rn_A ca) (rn_A mk) (rn_A fa) (rn_A tp) (rn_A ac) (rn_A sz) (rn_A dw) (rn_A st) (rn_A ty) (rn_A ed) (rn_A la) (rn_A fr) (rn_A sp) (rn_A go) (rn_A nz) (rn_A tk) (rn_C ch) (rn_A en) (rn_A nw) (rn_A gr) (rn_A cr) (rn_A ne) (rn_A nl) (rn_A oe) (rn_A ol) (rn_A fl) (rn_A pc) (rn_A ph) (rn_A pa) (rn_A se) (rn_A ls) (rn_A mo) (rn_A tl) gp fs := by
      intro nb
      refine ⟨pk_in c 32 hc, ek_f (rn_e (rn_rA (by omega)) (b := 0) rfl (by omega) (by omega)) (fun k2 => h0 (fun w => w.elim (fun v => by have := v.1; omega) nb)) (fun k2 => ⟨pk_in c 32 hc, rn_iA (by omega) A.2.2.1 (by omega), ?_⟩)⟩
      refine ek_f (rn_e (rn_AA (by omega) (by omega)) (b := j) rfl (by omega) (by omega)) (fun k3 => ⟨pk_in c 32 hc, ry_sz _ rfl hc (fun c => (rI_c I.1 c).2.1) ?_⟩) (fun k3 => h0 (fun w => w.elim (fun v => k3 v.2.1) nb))
      exact pk_le (sz (ty c)) (fr c) (fun k4 => h0 (fun w => w.elim (fun v => by have : fr c < sz (ty c) := v.2.2; omega) nb)) (fun k4 => h2 nb ⟨by omega, k3, k4⟩) rfl (rn_rA (by omega))
    refine ek_f (rn_e (rn_rA (by omega)) (b := 0) rfl (by omega) (by omega)) (fun k2 => h38 (fun w => by have := w.1; omega)) (fun k2 => ⟨pk_in c 32 hc, rn_iA (by omega) (by omega) (by omega), ?_⟩)
    have g0 : 0 < pg c := by omega
    have f1 := rI_fm I hc g0
    have D := rI_e I.1 (ne c)
    exact ek_f (rn_e (rn_AA (by omega) (by omega)) (b := j) rfl (by omega) (by omega)) (fun k3 => h1 ⟨by omega, by omega⟩) (fun k3 => h38 (fun w => by have := w.2; omega))
  · have := b3 k1
    rcases w with w | w
    · exact w.1 this.2.2
    · exact w.1 this.2.1
/-! the things that hold a car back -/
/-- what the first t things are, told by what holds of all of them -/
def rq_Th (gp fs : Nat → Int32) (t : Nat) (L : (Int32 → Int32 → Prop) → Prop) : Prop := ∀ Q : Int32 → Int32 → Prop, (∀ k, k < t → Q (gp k) (fs k)) ↔ L Q
theorem rq_Th1 {t : Nat} {L : (Int32 → Int32 → Prop) → Prop} (h : rq_Th gp fs t L) (g w : Int32) : rq_Th (upd gp t g) (upd fs t w) (t + 1) (fun Q => L Q ∧ Q g w) := by
  intro Q
  constructor
  · intro k
    refine ⟨(h Q).mp (fun i hi => ?_), ?_⟩
    · have := k i (by omega)
      rw [pk_un (by omega), pk_un (by omega)] at this
      exact this
    · have := k t (by omega)
      rw [pk_us, pk_us] at this
      exact this
  · rintro ⟨k1, k2⟩ i hi
    rcases Nat.decEq i t with q | q
    · rw [pk_un q, pk_un q]
      exact (h Q).mpr k1 i (by omega)
    · subst q; rw [pk_us, pk_us]; exact k2
theorem rq_ThE {t : Nat} {L M : (Int32 → Int32 → Prop) → Prop} (h : rq_Th gp fs t L) (e : ∀ Q, L Q ↔ M Q) : rq_Th gp fs t M := fun Q => (h Q).trans (e Q)
theorem ry_tg (post : SY → Prop) {t : Nat} {g w : Int32} (ht : t < 2) (h : post (nI kn, nI tn, nI (t + 1), rn_T ln, rn_A op, rn_A fm, rn_A tt, rn_A le, rn_A ln, rn_A li, rn_A rk, rn_A we, rn_A ca, rn_A mk, rn_A fa, rn_A tp, rn_A ac, rn_A sz, rn_A dw, rn_A st, rn_A ty, rn_A ed, rn_A la, rn_A fr, rn_A sp, rn_A go, rn_A nz, rn_A tk, rn_C ch, rn_A en, rn_A nw, rn_A gr, rn_A cr, rn_A ne, rn_A nl, rn_A oe, rn_A ol, rn_A fl, rn_A pc, rn_A ph, rn_A pa, rn_A se, rn_A ls, rn_A mo, rn_A tl, upd gp t g, upd fs t w)) : wpY_thing post (nI kn, nI tn, nI t, rn_T ln, rn_A op, rn_A fm, rn_A tt, rn_A le, rn_A ln, rn_A li, rn_A rk, rn_A we, rn_A ca, rn_A mk, rn_A fa, rn_A tp, rn_A ac, rn_A sz, rn_A dw, rn_A st, rn_A ty, rn_A ed, rn_A la, rn_A fr, rn_A sp, rn_A go, rn_A nz, rn_A tk, rn_C ch, rn_A en, rn_A nw, rn_A gr, rn_A cr, rn_A ne, rn_A nl, rn_A oe, rn_A ol, rn_A fl, rn_A pc, rn_A ph, rn_A pa, rn_A se, rn_A ls, rn_A mo, rn_A tl, gp, fs) g w := by
  refine ⟨pk_in t 2 ht, nm_r (e' := upd gp t g) (by rw [nI_clamp (by omega)]) ⟨pk_in t 2 ht, nm_r (e' := upd fs t w) (by rw [nI_clamp (by omega)]) (nm_r (nI_1 t) h)⟩⟩
/-- the END, as one of the things -/
def rq_En (le ed fr go : Nat → Nat) (f c : Nat) (Q : Int32 → Int32 → Prop) : Prop := (f = 0 → go c ≠ ed c → Q (ri_z ((le (ed c) : Int) - fr c)) 0) ∧ (0 < f → go c ≠ f - 1 → Q (ri_z ((le (ed c) : Int) - fr c + le (f - 1))) 0)
theorem ry_f120 (post : SY → Prop) {c f t : Nat} {L : (Int32 → Int32 → Prop) → Prop} (I : (rq_L ln fm tt le li rk we op mk wd wn pc ph pa pe pt se ls mo tp ac sz dw st ty ed fr sp go tk en ch ps pg cf ct la gr cr ne nl oe ol fl tl tn N)) (hc : c < 32) (hf : f ≤ 16) (ht : t ≤ 1) (hT : rq_Th gp fs t L)
    (H : ∀ gp fs t, t ≤ 2 → rq_Th gp fs t (fun Q => L Q ∧ rq_En le ed fr go f c Q) → post (nI kn, nI tn, nI t, rn_T ln, rn_A op, rn_A fm, rn_A tt, rn_A le, rn_A ln, rn_A li, rn_A rk, rn_A we, rn_A ca, rn_A mk, rn_A fa, rn_A tp, rn_A ac, rn_A sz, rn_A dw, rn_A st, rn_A ty, rn_A ed, rn_A la, rn_A fr, rn_A sp, rn_A go, rn_A nz, rn_A tk, rn_C ch, rn_A en, rn_A nw, rn_A gr, rn_A cr, rn_A ne, rn_A nl, rn_A oe, rn_A ol, rn_A fl, rn_A pc, rn_A ph, rn_A pa, rn_A se, rn_A ls, rn_A mo, rn_A tl, gp, fs)) : wY_find_120 post (nI c) (rn_y f) (nI (ed c)) (nI kn) (nI tn) (nI t) (rn_T ln) (rn_A op) (rn_A fm) (rn_A tt) (rn_A le) (rn_A ln) (rn_A li) (rn_A rk) (rn_A we) (rn_A ca) (rn_A mk) (rn_A fa) (rn_A tp) (rn_A ac) (rn_A sz) (rn_A dw) (rn_A st) (rn_A ty) (rn_A ed) (rn_A la) (rn_A fr) (rn_A sp) (rn_A go) (rn_A nz) (rn_A tk) (rn_C ch) (rn_A en) (rn_A nw) (rn_A gr) (rn_A cr) (rn_A ne) (rn_A nl) (rn_A oe) (rn_A ol) (rn_A fl) (rn_A pc) (rn_A ph) (rn_A pa) (rn_A se) (rn_A ls) (rn_A mo) (rn_A tl) gp fs := by
  have A := rI_c I c
  have B := rI_e I (ed c)
  refine ⟨vp_in_nI (by omega) (by omega), pk_in c 32 hc, nm_r (e' := ri_z ((le (ed c) : Int) - fr c)) (by rw [rn_rA (by omega), rn_rA (by omega), ri_n, ri_n, ri_sub]) ?_⟩
  refine ek_f (rn_y0 (by omega)) (fun k1 => ?_) (fun k1 => ⟨pk_in c 32 hc, ?_⟩)
  · have C := rI_e I (f - 1)
    refine ek_f (rn_yn (by omega)) (fun k2 => by omega) (fun k2 => ⟨pk_in c 32 hc, ?_⟩)
    refine ek_f (rn_e (rn_rA (by omega)) (rn_ys k1) (by omega) (by omega)) (fun k3 => H gp fs t (by omega) (rq_ThE hT (fun Q => ⟨fun w => ⟨w, fun z => by omega, fun _ z => absurd k3 z⟩, fun w => w.1⟩))) (fun k3 => ⟨rn_iy k1 hf (by omega), ?_⟩)
    have e1 : ri_z ((le (ed c) : Int) - fr c) + rn_A le (rn_y f).toNatClampNeg = ri_z ((le (ed c) : Int) - fr c + le (f - 1)) := by rw [rn_Ay k1 (by omega), ri_n, ri_add]
    rw [e1]
    exact ry_tg _ (by omega) (H _ _ (t + 1) (by omega) (rq_ThE (rq_Th1 hT _ _) (fun Q => ⟨fun w => ⟨w.1, fun z => by omega, fun _ _ => w.2⟩, fun w => ⟨w.1, w.2.2 k1 k3⟩⟩)))
  · have f0 : f = 0 := by omega
    subst f0
    refine ek_f (rn_e (rn_rA (by omega)) (b := ed c) rfl (by omega) (by omega)) (fun k2 => br_t (by decide) (H gp fs t (by omega) (rq_ThE hT (fun Q => ⟨fun w => ⟨w, fun _ z => absurd k2 z, fun z => by omega⟩, fun w => w.1⟩)))) (fun k2 => ?_)
    exact ry_tg _ (by omega) (br_t (by decide) (H _ _ (t + 1) (by omega) (rq_ThE (rq_Th1 hT _ _) (fun Q => ⟨fun w => ⟨w.1, fun _ _ => w.2, fun z => by omega⟩, fun w => ⟨w.1, w.2.1 rfl k2⟩⟩))))
/-- the one AHEAD, as one of the things -/
def rq_Ld (le ty sz ed fr sp ps : Nat → Nat) (s c : Nat) (Q : Int32 → Int32 → Prop) : Prop := ∀ a, rq_le fr ps s c = a + 1 → (ed a = ed c → Q (ri_z ((fr a : Int) - sz (ty a) - 1 - fr c)) (nI (sp a))) ∧ (ed a ≠ ed c → Q (ri_z ((fr a : Int) - sz (ty a) - 1 - fr c + le (ed c))) (nI (sp a)))
theorem ry_fd (post : SY → Prop) {c f l : Nat} {x y w : Int32} (hx : x = nI c) (hy : y = rn_y f) (hw : w = nI l) (I : (rq_L ln fm tt le li rk we op mk wd wn pc ph pa pe pt se ls mo tp ac sz dw st ty ed fr sp go tk en ch ps pg cf ct la gr cr ne nl oe ol fl tl tn N)) (hc : c < 32) (h2 : st c = 2) (hf : f ≤ 16) (hl : 0 < f → l ≤ 1) (hne : 0 < f → f - 1 ≠ ed c)
    (H : ∀ gp fs t, t ≤ 2 → rq_Th gp fs t (fun Q => rq_Ld le ty sz ed fr sp ps (if f = 0 then 0 else 2 * (f - 1) + l + 1) c Q ∧ rq_En le ed fr go f c Q) → post (nI kn, nI tn, nI t, rn_T ln, rn_A op, rn_A fm, rn_A tt, rn_A le, rn_A ln, rn_A li, rn_A rk, rn_A we, rn_A ca, rn_A mk, rn_A fa, rn_A tp, rn_A ac, rn_A sz, rn_A dw, rn_A st, rn_A ty, rn_A ed, rn_A la, rn_A fr, rn_A sp, rn_A go, rn_A nz, rn_A tk, rn_C ch, rn_A en, rn_A nw, rn_A gr, rn_A cr, rn_A ne, rn_A nl, rn_A oe, rn_A ol, rn_A fl, rn_A pc, rn_A ph, rn_A pa, rn_A se, rn_A ls, rn_A mo, rn_A tl, gp, fs)) : wpY_find post (nI kn, nI tn, th, rn_T ln, rn_A op, rn_A fm, rn_A tt, rn_A le, rn_A ln, rn_A li, rn_A rk, rn_A we, rn_A ca, rn_A mk, rn_A fa, rn_A tp, rn_A ac, rn_A sz, rn_A dw, rn_A st, rn_A ty, rn_A ed, rn_A la, rn_A fr, rn_A sp, rn_A go, rn_A nz, rn_A tk, rn_C ch, rn_A en, rn_A nw, rn_A gr, rn_A cr, rn_A ne, rn_A nl, rn_A oe, rn_A ol, rn_A fl, rn_A pc, rn_A ph, rn_A pa, rn_A se, rn_A ls, rn_A mo, rn_A tl, gp, fs) x y w := by
  subst hx hy hw
  have A := rI_c I c
  have B := rI_e I (ed c)
  obtain ⟨q1, q2, q3, q4, q5, q6⟩ := rq_psE I.2.1 hc h2
  have p1 := ((rI_p I hc).2.2.2.1 h2).1
  have hT : ∀ c, ty c < 4 := fun c => (rI_c I c).2.1
  have L := rd_nrL (ps := ps) (fr := fr) (s := ps c) (p := fr c) 32
  generalize hs : (if f = 0 then 0 else 2 * (f - 1) + l + 1) = s at H
  have s32 : s ≤ 32 := by
    rw [← hs]
    split
    · omega
    · have := hl (by omega); omega
  have hq : 0 < s → rd_q s ≠ ed c := by
    intro w
    rw [← hs] at w ⊢
    rcases Nat.eq_zero_or_pos f with z | z
    · rw [if_pos z] at w; omega
    · rw [if_neg (by omega), rd_qE (hl z)]; exact hne z
  have th0 : rq_Th gp fs 0 (fun _ => True) := fun Q => ⟨fun _ => trivial, fun _ k hk => absurd hk (Nat.not_lt_zero k)⟩
  refine ⟨pk_in c 32 hc, nm_r (rn_rA (by omega)) ⟨pk_in c 32 hc, pk_in c 32 hc, ?_⟩⟩
  refine ry_ab _ rfl (rn_rA (by omega)) (rn_rA (by omega)) (by omega) q6 (by omega) (rI_on I) (rI_fr I) ?_
  have e2 : 2 * ed c + la c + 1 = ps c := by omega
  rw [e2]
  refine ek_f (rn_yn (by omega)) (fun k1 => ?_) (fun k1 => ?_)
  · -- none on the own lane
    refine ek_f (rn_yn (by omega)) (fun k2 => ?_) (fun k2 => ?_)
    · have s0 : s = 0 := by rw [← hs, if_pos k2]
      refine ry_f120 post (t := 0) I hc hf (by omega) th0 (fun gp fs t ht hTh => H gp fs t ht (rq_ThE hTh (fun Q => ⟨fun w => ⟨fun a ha => ?_, w.2⟩, fun w => ⟨trivial, w.2⟩⟩)))
      unfold rq_le at ha
      rw [if_pos k1, if_pos s0] at ha
      omega
    · have f0 : 0 < f := by omega
      have hl1 := hl f0
      have s0 : s = 2 * (f - 1) + l + 1 := by rw [← hs, if_neg (by omega)]
      have le1 : rq_le fr ps s c = (rd_nr ps fr) s 0 32 := by unfold rq_le; rw [if_pos k1, if_neg (by omega)]
      refine ry_ab _ (rn_ys f0) rfl (p := 0) rfl (by omega) hl1 (by omega) (rI_on I) (rI_fr I) ?_
      rw [← s0]
      have L2 := rd_nrL (ps := ps) (fr := fr) (s := s) (p := 0) 32
      refine ek_f (rn_y0 (by omega)) (fun k3 => ?_) (fun k3 => ?_)
      · obtain ⟨a, ha⟩ : ∃ a, rq_le fr ps s c = a + 1 := ⟨(rd_nr ps fr) s 0 32 - 1, by omega⟩
        obtain ⟨a1, a2, a3⟩ := rI_leC I hc h2 s32 hq ha
        have D := rI_c I a
        have U := rI_y I a
        have ea : ed a ≠ ed c := by
          rcases a3 with z | z
          · omega
          · exact z.1
        rw [← le1, ha]
        refine ry_gp _ rfl rfl hT hc a1 ⟨vp_in_nI (by omega) (by omega), br_f (nI_pos (by omega)) ⟨pk_in a 32 a1, ?_⟩⟩
        have r1 : rn_A sp (rn_y (a + 1)).toNatClampNeg = nI (sp a) := rn_rA (by omega)
        have r2 : ri_z ((fr a : Int) - sz (ty a) - 1 - fr c) + rn_A le (nI (ed c)).toNatClampNeg = ri_z ((fr a : Int) - sz (ty a) - 1 - fr c + le (ed c)) := by rw [rn_rA (by omega), ri_n, ri_add]
        rw [r1, r2]
        refine ry_tg (t := 0) _ (by omega) (ry_f120 post (t := 1) I hc hf (by omega) (rq_Th1 th0 _ _) (fun gp fs t ht hTh => H gp fs t ht (rq_ThE hTh (fun Q => ⟨fun w => ⟨fun b hb => ?_, w.2⟩, fun w => ⟨⟨trivial, (w.1 a ha).2 ea⟩, w.2⟩⟩))))
        have : b = a := by omega
        subst this
        exact ⟨fun z => absurd z ea, fun _ => w.1.2⟩
      · refine br_t ((rn_yn (by omega)).mpr (by omega)) (ry_f120 post (t := 0) I hc hf (by omega) th0 (fun gp fs t ht hTh => H gp fs t ht (rq_ThE hTh (fun Q => ⟨fun w => ⟨fun a ha => by omega, w.2⟩, fun w => ⟨trivial, w.2⟩⟩))))
  · have le1 : rq_le fr ps s c = (rd_nr ps fr) (ps c) (fr c) 32 := by unfold rq_le; rw [if_neg k1]
    obtain ⟨a, ha⟩ : ∃ a, rq_le fr ps s c = a + 1 := ⟨(rd_nr ps fr) (ps c) (fr c) 32 - 1, by omega⟩
    obtain ⟨a1, a2, a3⟩ := rI_leC I hc h2 s32 hq ha
    have D := rI_c I a
    have U := rI_y I a
    have ea : ed a = ed c := by
      rcases a3 with z | z
      · exact z.1
      · omega
    rw [← le1, ha]
    refine ry_gp _ rfl rfl hT hc a1 ⟨pk_in a 32 a1, ?_⟩
    have r1 : rn_A sp (rn_y (a + 1)).toNatClampNeg = nI (sp a) := rn_rA (by omega)
    rw [r1]
    refine ry_tg (t := 0) _ (by omega) (ry_f120 post (t := 1) I hc hf (by omega) (rq_Th1 th0 _ _) (fun gp fs t ht hTh => H gp fs t ht (rq_ThE hTh (fun Q => ⟨fun w => ⟨fun b hb => ?_, w.2⟩, fun w => ⟨⟨trivial, (w.1 a ha).1 ea⟩, w.2⟩⟩))))
    have : b = a := by omega
    subst this
    exact ⟨fun _ => w.1.2, fun z => absurd ea z⟩
end
end
section
/-! CROSSINGS: Y's CAN and the first that can -/
def rq_R (v : Nat) (g w : Int32) : Prop := 0 ≤ g.toInt ∧ (rd_D v : Int) ≤ g.toInt + rd_D w.toNatClampNeg
def rq_Sh (g w : Int32) : Prop := ∃ (a : Int) (b : Nat), g = ri_z a ∧ w = nI b ∧ (-100000 < a ∧ a < 100000) ∧ b < 64
theorem rq_RE {v b : Nat} {a : Int} (ha : -100000 < a ∧ a < 100000) (hb : b < 64) : rq_R v (ri_z a) (nI b) ↔ (0 ≤ a ∧ (rd_D v : Int) ≤ a + rd_D b) := by
  unfold rq_R
  rw [ri_toInt (by omega) (by omega), nI_clamp (by omega)]
section
variable {ln fm tt le li rk we op ca mk wd wn fa pc ph pa pe pt se ls mo tp ac sz dw st ty ed fr sp go nz tk en ch nw ps pg cf ct la gr cr ne nl oe ol fl tl : Nat → Nat} {tn kn N : Nat} {th : Int32} {gp fs : Nat → Int32}
theorem ry_als (post : Int32 → Prop) {t v : Nat} {x : Int32} (hx : x = nI v) (ht : t ≤ 2) (hv : v < 64) (hs : ∀ k, k < t → rq_Sh (gp k) (fs k)) (h : post (rb_ (∀ k, k < t → rq_R v (gp k) (fs k)))) : wpY_allSafe post (nI kn, nI tn, nI t, rn_T ln, rn_A op, rn_A fm, rn_A tt, rn_A le, rn_A ln, rn_A li, rn_A rk, rn_A we, rn_A ca, rn_A mk, rn_A fa, rn_A tp, rn_A ac, rn_A sz, rn_A dw, rn_A st, rn_A ty, rn_A ed, rn_A la, rn_A fr, rn_A sp, rn_A go, rn_A nz, rn_A tk, rn_C ch, rn_A en, rn_A nw, rn_A gr, rn_A cr, rn_A ne, rn_A nl, rn_A oe, rn_A ol, rn_A fl, rn_A pc, rn_A ph, rn_A pa, rn_A se, rn_A ls, rn_A mo, rn_A tl, gp, fs) x := by
  subst hx
  refine loop_0 (fun n i (_ : Unit) => wY_allSafe_2 post (nI v) (nI kn) (nI tn) (nI t) (rn_T ln) (rn_A op) (rn_A fm) (rn_A tt) (rn_A le) (rn_A ln) (rn_A li) (rn_A rk) (rn_A we) (rn_A ca) (rn_A mk) (rn_A fa) (rn_A tp) (rn_A ac) (rn_A sz) (rn_A dw) (rn_A st) (rn_A ty) (rn_A ed) (rn_A la) (rn_A fr) (rn_A sp) (rn_A go) (rn_A nz) (rn_A tk) (rn_C ch) (rn_A en) (rn_A nw) (rn_A gr) (rn_A cr) (rn_A ne) (rn_A nl) (rn_A oe) (rn_A ol) (rn_A fl) (rn_A pc) (rn_A ph) (rn_A pa) (rn_A se) (rn_A ls) (rn_A mo) (rn_A tl) gp fs n (nI i)) (fun i _ => ∀ k, k < i → rq_R v (gp k) (fs k)) t () (fun k hk => absurd hk (Nat.not_lt_zero k)) ?_ ?_
  · intro n _ e
    exact br_t (nI_le (Nat.le_refl _) (by omega)) (rb_p1 h e)
  · intro n i _ hi e ih
    obtain ⟨a, b, ea, eb, ha, hb⟩ := hs i hi
    refine br_f (nI_ge hi (by omega)) ⟨pk_in i 2 (by omega), pk_in i 2 (by omega), ?_⟩
    rw [nI_clamp (by omega), ea, eb]
    refine ry_safe _ hv hb ha ?_
    rw [← rb_e (rq_RE ha hb)]
    refine rb_b (fun k => rb_p0 h (fun w => k (by have := w i hi; rw [ea, eb] at this; exact this))) (fun k => nm_r (nI_1 i) (ih () (lt_s e (by rw [ea, eb]; exact k))))
/-- all things have their shape -/
theorem rq_LdS (I : (rq_L ln fm tt le li rk we op mk wd wn pc ph pa pe pt se ls mo tp ac sz dw st ty ed fr sp go tk en ch ps pg cf ct la gr cr ne nl oe ol fl tl tn N)) {s c : Nat} (hc : c < 32) (h2 : st c = 2) (hs : s ≤ 32) (hq : 0 < s → rd_q s ≠ ed c) : rq_Ld le ty sz ed fr sp ps s c rq_Sh := by
  intro a ha
  obtain ⟨a1, a2, a3⟩ := rI_leC I hc h2 hs hq ha
  have A := rI_c I c
  have B := rI_e I (ed c)
  have D := rI_c I a
  have U := rI_y I a
  exact ⟨fun _ => ⟨_, _, rfl, rfl, by omega, by omega⟩, fun _ => ⟨_, _, rfl, rfl, by omega, by omega⟩⟩
theorem rq_EnS (I : (rq_L ln fm tt le li rk we op mk wd wn pc ph pa pe pt se ls mo tp ac sz dw st ty ed fr sp go tk en ch ps pg cf ct la gr cr ne nl oe ol fl tl tn N)) {f c : Nat} : rq_En le ed fr go f c rq_Sh := by
  have A := rI_c I c
  have B := rI_e I (ed c)
  have C := rI_e I (f - 1)
  exact ⟨fun _ _ => ⟨_, 0, rfl, rfl, by omega, by omega⟩, fun _ _ => ⟨_, 0, rfl, rfl, by omega, by omega⟩⟩
/-- SAFE, by the things -/
theorem rq_csT (I : (rq_I ln fm tt le li rk we op mk wd wn pc ph pa pe pt se ls mo tp ac sz dw st ty ed fr sp go tk en ch ps pg cf ct la gr cr ne nl oe ol fl tl tn N)) {s n c : Nat} (hc : c < 32) (h2 : st c = 2) (hs : s ≤ 32) (s0 : 0 < s) (hn : 0 < n) (hqn : rd_q s = n - 1) (hne : n - 1 ≠ ed c) : (rq_Ld le ty sz ed fr sp ps s c (rq_R (sp c)) ∧ rq_En le ed fr go n c (rq_R (sp c))) ↔ (rq_cs le ed fr sp go ps (fun x => sz (ty x))) s c := by
  have A := rI_c I.1 c
  have B := rI_e I.1 (ed c)
  have C := rI_e I.1 (n - 1)
  have F := rI_fre I hc h2
  have hq : 0 < s → rd_q s ≠ ed c := fun _ => by rw [hqn]; exact hne
  rw [rq_csE s0, hqn]
  have e0 : rq_R (sp c) (ri_z ((le (ed c) : Int) - fr c + le (n - 1))) 0 ↔ rd_D (sp c) + fr c ≤ le (ed c) + le (n - 1) := by
    have := rq_RE (v := sp c) (b := 0) (a := (le (ed c) : Int) - fr c + le (n - 1)) (by omega) (by omega)
    rw [show (0 : Int32) = nI 0 from rfl, this, rd_D0]
    omega
  have ee : rq_En le ed fr go n c (rq_R (sp c)) ↔ (go c ≠ n - 1 → rd_D (sp c) + fr c ≤ le (ed c) + le (n - 1)) :=
    ⟨fun w z => e0.mp (w.2 hn z), fun w => ⟨fun z => by omega, fun _ z => e0.mpr (w z)⟩⟩
  rw [ee]
  have el : rq_Ld le ty sz ed fr sp ps s c (rq_R (sp c)) ↔ (∀ a, rq_le fr ps s c = a + 1 → ((rd_nr ps fr) (ps c) (fr c) 32 = a + 1 → rd_Fo (fr c) (sp c) (fr a) (sp a) (sz (ty a))) ∧ ((rd_nr ps fr) (ps c) (fr c) 32 = 0 → rd_Fo (fr c) (sp c) (fr a + le (ed c)) (sp a) (sz (ty a)))) := by
    have key : ∀ a, rq_le fr ps s c = a + 1 → (rq_R (sp c) (ri_z ((fr a : Int) - sz (ty a) - 1 - fr c)) (nI (sp a)) ↔ rd_Fo (fr c) (sp c) (fr a) (sp a) (sz (ty a))) ∧ (rq_R (sp c) (ri_z ((fr a : Int) - sz (ty a) - 1 - fr c + le (ed c))) (nI (sp a)) ↔ rd_Fo (fr c) (sp c) (fr a + le (ed c)) (sp a) (sz (ty a))) := by
      intro a ha
      have D := rI_c I.1 a
      have U := rI_y I.1 a
      exact ⟨(rq_RE (by omega) (by omega)).trans rd_FoZ, (rq_RE (by omega) (by omega)).trans rd_FoY⟩
    constructor
    · intro w a ha
      obtain ⟨a1, a2, a3⟩ := rI_leC I.1 hc h2 hs hq ha
      rcases a3 with ⟨z1, z2⟩ | ⟨z1, z2, _⟩
      · exact ⟨fun _ => (key a ha).1.mp ((w a ha).1 z1), fun y => by omega⟩
      · exact ⟨fun y => by omega, fun _ => (key a ha).2.mp ((w a ha).2 z1)⟩
    · intro w a ha
      obtain ⟨a1, a2, a3⟩ := rI_leC I.1 hc h2 hs hq ha
      rcases a3 with ⟨z1, z2⟩ | ⟨z1, z2, _⟩
      · exact ⟨fun _ => (key a ha).1.mpr ((w a ha).1 z2), fun y => absurd z1 y⟩
      · exact ⟨fun y => absurd y z1, fun _ => (key a ha).2.mpr ((w a ha).2 z2)⟩
  rw [el]
  exact ⟨fun w => ⟨w.2, w.1⟩, fun w => ⟨w.2, w.1⟩⟩
theorem ry_c235 (post : Int32 → SY → Prop) {c j : Nat} {P : Prop} (I : (rq_L ln fm tt le li rk we op mk wd wn pc ph pa pe pt se ls mo tp ac sz dw st ty ed fr sp go tk en ch ps pg cf ct la gr cr ne nl oe ol fl tl tn N)) (hc : c < 32) (h2 : st c = 2) (hj : j < 8) (hp : P ↔ ∀ b, b < 32 → (rq_ask ln fm tt le mk wn pc ph pe st ed fr go ps pg) j b → ps b ≠ ps c → ¬ (rq_bf rk le ed fr ps) b c) (H : ∀ kn fa, (rq_WY ln fm tt le li we op mk fa kn) → post (rb_ P) (nI kn, nI tn, th, rn_T ln, rn_A op, rn_A fm, rn_A tt, rn_A le, rn_A ln, rn_A li, rn_A rk, rn_A we, rn_A ca, rn_A mk, rn_A fa, rn_A tp, rn_A ac, rn_A sz, rn_A dw, rn_A st, rn_A ty, rn_A ed, rn_A la, rn_A fr, rn_A sp, rn_A go, rn_A nz, rn_A tk, rn_C ch, rn_A en, rn_A nw, rn_A gr, rn_A cr, rn_A ne, rn_A nl, rn_A oe, rn_A ol, rn_A fl, rn_A pc, rn_A ph, rn_A pa, rn_A se, rn_A ls, rn_A mo, rn_A tl, gp, fs)) : ∀ n i kn fa, i ≤ 32 → 32 - i < n → (rq_WY ln fm tt le li we op mk fa kn) → (∀ b, b < i → (rq_ask ln fm tt le mk wn pc ph pe st ed fr go ps pg) j b → ps b ≠ ps c → ¬ (rq_bf rk le ed fr ps) b c) → wY_can_235 post (nI c) (nI j) 1 n (nI i) (nI kn) (nI tn) th (rn_T ln) (rn_A op) (rn_A fm) (rn_A tt) (rn_A le) (rn_A ln) (rn_A li) (rn_A rk) (rn_A we) (rn_A ca) (rn_A mk) (rn_A fa) (rn_A tp) (rn_A ac) (rn_A sz) (rn_A dw) (rn_A st) (rn_A ty) (rn_A ed) (rn_A la) (rn_A fr) (rn_A sp) (rn_A go) (rn_A nz) (rn_A tk) (rn_C ch) (rn_A en) (rn_A nw) (rn_A gr) (rn_A cr) (rn_A ne) (rn_A nl) (rn_A oe) (rn_A ol) (rn_A fl) (rn_A pc) (rn_A ph) (rn_A pa) (rn_A se) (rn_A ls) (rn_A mo) (rn_A tl) gp fs := by
  intro n
  induction n with
  | zero => intro i kn fa h1 h2; omega
  | succ n ih =>
    intro i kn fa hi hin hW e
    refine pk_le 32 i (fun z => rb_q1 (H kn fa hW) (hp.mpr (fun b hb => e b (by omega)))) (fun z => br_f (by decide) (ry_as _ rfl rfl I hW z hj (fun kn fa hW' => ?_)))
    have nxt : ((rq_ask ln fm tt le mk wn pc ph pe st ed fr go ps pg) j i → ps i ≠ ps c → ¬ (rq_bf rk le ed fr ps) i c) → wY_can_235 post (nI c) (nI j) 1 n (nI (i + 1)) (nI kn) (nI tn) th (rn_T ln) (rn_A op) (rn_A fm) (rn_A tt) (rn_A le) (rn_A ln) (rn_A li) (rn_A rk) (rn_A we) (rn_A ca) (rn_A mk) (rn_A fa) (rn_A tp) (rn_A ac) (rn_A sz) (rn_A dw) (rn_A st) (rn_A ty) (rn_A ed) (rn_A la) (rn_A fr) (rn_A sp) (rn_A go) (rn_A nz) (rn_A tk) (rn_C ch) (rn_A en) (rn_A nw) (rn_A gr) (rn_A cr) (rn_A ne) (rn_A nl) (rn_A oe) (rn_A ol) (rn_A fl) (rn_A pc) (rn_A ph) (rn_A pa) (rn_A se) (rn_A ls) (rn_A mo) (rn_A tl) gp fs := fun w => ih (i + 1) kn fa (by omega) (by omega) hW' (lt_s e w)
    refine rb_b (fun k1 => br_t rfl (nm_r (nI_1 i) (nxt (fun w => absurd w k1)))) (fun k1 => ⟨pk_in i 32 z, pk_in c 32 hc, ?_⟩)
    have s2 := k1.1
    have A := rI_c I i
    have A' := rI_c I c
    have P1 := ((rI_p I hc).2.2.2.1 h2).1
    have P2 := ((rI_p I z).2.2.2.1 s2).1
    have s289 : ps i ≠ ps c → wY_can_289 post (wY_can_235 post (nI c) (nI j) 1 n) (nI c) (nI j) 1 (nI i) (nI kn) (nI tn) th (rn_T ln) (rn_A op) (rn_A fm) (rn_A tt) (rn_A le) (rn_A ln) (rn_A li) (rn_A rk) (rn_A we) (rn_A ca) (rn_A mk) (rn_A fa) (rn_A tp) (rn_A ac) (rn_A sz) (rn_A dw) (rn_A st) (rn_A ty) (rn_A ed) (rn_A la) (rn_A fr) (rn_A sp) (rn_A go) (rn_A nz) (rn_A tk) (rn_C ch) (rn_A en) (rn_A nw) (rn_A gr) (rn_A cr) (rn_A ne) (rn_A nl) (rn_A oe) (rn_A ol) (rn_A fl) (rn_A pc) (rn_A ph) (rn_A pa) (rn_A se) (rn_A ls) (rn_A mo) (rn_A tl) gp fs := fun w => br_f (by decide) (ry_bf _ rfl rfl I z hc s2 h2 (rb_b (fun q => nm_r (nI_1 i) (nxt (fun _ _ => q))) (fun q => rb_q0 (H kn fa hW') (fun v => (hp.mp v) i z k1 w q))))
    refine ek_f (rn_e (rn_rA (by omega)) (rn_rA (by omega)) (by omega) (by omega)) (fun k2 => ⟨pk_in i 32 z, pk_in c 32 hc, ?_⟩) (fun k2 => s289 (by omega))
    exact ek_f (rn_e (rn_rA (by omega)) (rn_rA (by omega)) (by omega) (by omega)) (fun k3 => br_t rfl (nm_r (nI_1 i) (nxt (fun _ w => absurd (by omega) w)))) (fun k3 => s289 (by omega))
theorem ry_c61 (post : Int32 → SY → Prop) {c j n l s : Nat} (I : (rq_I ln fm tt le li rk we op mk wd wn pc ph pa pe pt se ls mo tp ac sz dw st ty ed fr sp go tk en ch ps pg cf ct la gr cr ne nl oe ol fl tl tn N)) (hW : (rq_WY ln fm tt le li we op mk fa kn)) (hc : c < 32) (h2 : st c = 2) (hj : j < 8) (hn : n < 16) (hl : l ≤ 1) (hs : s = 2 * n + l + 1) (H : ∀ kn fa, (rq_WY ln fm tt le li we op mk fa kn) → post (rb_ ((rq_mh fm tt rk le ed fr ps pg cf ct (fun x => sz (ty x))) ((rq_ask ln fm tt le mk wn pc ph pe st ed fr go ps pg) j) j s c)) (nI kn, nI tn, th, rn_T ln, rn_A op, rn_A fm, rn_A tt, rn_A le, rn_A ln, rn_A li, rn_A rk, rn_A we, rn_A ca, rn_A mk, rn_A fa, rn_A tp, rn_A ac, rn_A sz, rn_A dw, rn_A st, rn_A ty, rn_A ed, rn_A la, rn_A fr, rn_A sp, rn_A go, rn_A nz, rn_A tk, rn_C ch, rn_A en, rn_A nw, rn_A gr, rn_A cr, rn_A ne, rn_A nl, rn_A oe, rn_A ol, rn_A fl, rn_A pc, rn_A ph, rn_A pa, rn_A se, rn_A ls, rn_A mo, rn_A tl, gp, fs)) : ∃ m, wY_can_61 post (nI c) (nI j) (nI n) (nI l) (nI kn) (nI tn) th (rn_T ln) (rn_A op) (rn_A fm) (rn_A tt) (rn_A le) (rn_A ln) (rn_A li) (rn_A rk) (rn_A we) (rn_A ca) (rn_A mk) (rn_A fa) (rn_A tp) (rn_A ac) (rn_A sz) (rn_A dw) (rn_A st) (rn_A ty) (rn_A ed) (rn_A la) (rn_A fr) (rn_A sp) (rn_A go) (rn_A nz) (rn_A tk) (rn_C ch) (rn_A en) (rn_A nw) (rn_A gr) (rn_A cr) (rn_A ne) (rn_A nl) (rn_A oe) (rn_A ol) (rn_A fl) (rn_A pc) (rn_A ph) (rn_A pa) (rn_A se) (rn_A ls) (rn_A mo) (rn_A tl) gp fs m 0 0 := by
  have P1 := ((rI_p I.1 hc).2.2.2.1 h2).1
  have A' := rI_c I.1 c
  refine loop_0 (fun m i (b : Nat) => wY_can_61 post (nI c) (nI j) (nI n) (nI l) (nI kn) (nI tn) th (rn_T ln) (rn_A op) (rn_A fm) (rn_A tt) (rn_A le) (rn_A ln) (rn_A li) (rn_A rk) (rn_A we) (rn_A ca) (rn_A mk) (rn_A fa) (rn_A tp) (rn_A ac) (rn_A sz) (rn_A dw) (rn_A st) (rn_A ty) (rn_A ed) (rn_A la) (rn_A fr) (rn_A sp) (rn_A go) (rn_A nz) (rn_A tk) (rn_C ch) (rn_A en) (rn_A nw) (rn_A gr) (rn_A cr) (rn_A ne) (rn_A nl) (rn_A oe) (rn_A ol) (rn_A fl) (rn_A pc) (rn_A ph) (rn_A pa) (rn_A se) (rn_A ls) (rn_A mo) (rn_A tl) gp fs m (nI b) (nI i)) (fun i b => b ≤ 1 ∧ (∀ d, d < i → (rq_hd fm tt ed fr pg cf (fun x => sz (ty x))) j d → (rq_hf tt ed ps pg cf) j d = ps c ∧ (rq_ht tt ed pg ct) j d = s) ∧ (b = 1 ↔ ∃ d, d < i ∧ (rq_hd fm tt ed fr pg cf (fun x => sz (ty x))) j d)) 32 0 ⟨by omega, fun d hd => absurd hd (Nat.not_lt_zero d), fun z => by omega, fun ⟨d, hd, _⟩ => absurd hd (Nat.not_lt_zero d)⟩ ?_ ?_
  · rintro m b ⟨b1, b2, b3⟩
    refine br_t (by decide) ?_
    rcases Nat.eq_zero_or_pos b with z | z
    · subst z
      exact ⟨1, br_f (nI_ge (a := 0) (b := 32) (by omega) (by decide)) (br_t rfl (rb_q1 (H kn fa hW) ⟨b2, fun v => by have := b3.mpr v; omega⟩))⟩
    · have bb : b = 1 := by omega
      subst bb
      have ex := b3.mp rfl
      exact ⟨33, ry_c235 post (P := (rq_mh fm tt rk le ed fr ps pg cf ct (fun x => sz (ty x))) ((rq_ask ln fm tt le mk wn pc ph pe st ed fr go ps pg) j) j s c) I.1 hc h2 hj ⟨fun w => w.2 ex, fun w => ⟨b2, fun _ => w⟩⟩ H 33 0 kn fa (by omega) (by omega) hW (fun b hb => absurd hb (Nat.not_lt_zero b))⟩
  · rintro m i b hi ⟨b1, b2, b3⟩ ih
    have A := rI_c I.1 i
    have G := rI_gd I.1 i hi
    obtain ⟨_, c2, c3, c4, c5⟩ := I.1.2.1.2 i hi
    have bad : ¬ ((rq_hf tt ed ps pg cf) j i = ps c ∧ (rq_ht tt ed pg ct) j i = s) → (rq_hd fm tt ed fr pg cf (fun x => sz (ty x))) j i → post 0 (nI kn, nI tn, th, rn_T ln, rn_A op, rn_A fm, rn_A tt, rn_A le, rn_A ln, rn_A li, rn_A rk, rn_A we, rn_A ca, rn_A mk, rn_A fa, rn_A tp, rn_A ac, rn_A sz, rn_A dw, rn_A st, rn_A ty, rn_A ed, rn_A la, rn_A fr, rn_A sp, rn_A go, rn_A nz, rn_A tk, rn_C ch, rn_A en, rn_A nw, rn_A gr, rn_A cr, rn_A ne, rn_A nl, rn_A oe, rn_A ol, rn_A fl, rn_A pc, rn_A ph, rn_A pa, rn_A se, rn_A ls, rn_A mo, rn_A tl, gp, fs) := fun w v => rb_q0 (H kn fa hW) (fun y => w (y.1 i hi v))
    have good : (rq_hf tt ed ps pg cf) j i = ps c ∧ (rq_ht tt ed pg ct) j i = s → (rq_hd fm tt ed fr pg cf (fun x => sz (ty x))) j i → wY_can_61 post (nI c) (nI j) (nI n) (nI l) (nI kn) (nI tn) th (rn_T ln) (rn_A op) (rn_A fm) (rn_A tt) (rn_A le) (rn_A ln) (rn_A li) (rn_A rk) (rn_A we) (rn_A ca) (rn_A mk) (rn_A fa) (rn_A tp) (rn_A ac) (rn_A sz) (rn_A dw) (rn_A st) (rn_A ty) (rn_A ed) (rn_A la) (rn_A fr) (rn_A sp) (rn_A go) (rn_A nz) (rn_A tk) (rn_C ch) (rn_A en) (rn_A nw) (rn_A gr) (rn_A cr) (rn_A ne) (rn_A nl) (rn_A oe) (rn_A ol) (rn_A fl) (rn_A pc) (rn_A ph) (rn_A pa) (rn_A se) (rn_A ls) (rn_A mo) (rn_A tl) gp fs m (nI 1) (nI (i + 1)) := fun w v => ih 1 ⟨by omega, lt_s b2 (fun _ => w), fun _ => ⟨i, by omega, v⟩, fun _ => rfl⟩
    refine pk_le 32 i (fun z => by omega) (fun _ => ry_hd _ rfl rfl I hi hj (fun k1 => ?_) (fun k1 k2 => ?_) (fun k1 => ?_))
    · -- bound to cross
      have hv : (rq_hd fm tt ed fr pg cf (fun x => sz (ty x))) j i := Or.inr k1
      have gg : 0 < pg i := by have := k1.1; omega
      obtain ⟨g1, g2, g3, g4, g5⟩ := rq_pgS I.1.2.1 hi gg
      have P2 := (c2 g1).1
      have LL := rI_e I.1 (ne i)
      have f1 : (rq_hf tt ed ps pg cf) j i = ps i := by unfold rq_hf; rw [if_pos k1]
      have f2 : (rq_ht tt ed pg ct) j i = pg i := by unfold rq_ht; rw [if_pos k1]
      rw [f1, f2] at bad good
      refine br_f (by decide) (br_t rfl ⟨pk_in i 32 hi, pk_in c 32 hc, ?_⟩)
      refine ek_f (rn_e (rn_rA (by omega)) (rn_rA (by omega)) (by omega) (by omega)) (fun m1 => ⟨pk_in i 32 hi, pk_in c 32 hc, ?_⟩) (fun m1 => br_t rfl (bad (by omega) hv))
      refine ek_f (rn_e (rn_rA (by omega)) (rn_rA (by omega)) (by omega) (by omega)) (fun m2 => ⟨pk_in i 32 hi, ?_⟩) (fun m2 => br_t rfl (bad (by omega) hv))
      refine ek_f (rn_e (rn_rA (by omega)) rfl (by omega) (by omega)) (fun m3 => ⟨pk_in i 32 hi, ?_⟩) (fun m3 => br_t rfl (bad (by omega) hv))
      exact ek_f (rn_e (rn_rA (by omega)) rfl (by omega) (by omega)) (fun m4 => br_f (by decide) (nm_r (nI_1 i) (good (by omega) hv))) (fun m4 => br_t rfl (bad (by omega) hv))
    · have hv : (rq_hd fm tt ed fr pg cf (fun x => sz (ty x))) j i := Or.inl k2
      have s2 : st i = 2 := by
        rcases Nat.decEq (st i) 2 with q | q
        · exact absurd (c3 q).2.2 k2.1
        · exact q
      have C5 := c5 s2
      have k3 := k2.1
      have f1 : (rq_hf tt ed ps pg cf) j i = cf i := by unfold rq_hf; rw [if_neg k1]
      have f2 : (rq_ht tt ed pg ct) j i = ct i := by unfold rq_ht; rw [if_neg k1]
      rw [f1, f2] at bad good
      refine br_f (by decide) (br_f (by decide) ⟨pk_in i 32 hi, pk_in c 32 hc, ?_⟩)
      refine ek_f (rn_e (rn_rA (by omega)) (rn_rA (by omega)) (by omega) (by omega)) (fun m1 => ⟨pk_in i 32 hi, pk_in c 32 hc, ?_⟩) (fun m1 => br_t rfl (bad (by omega) hv))
      refine ek_f (rn_e (rn_rA (by omega)) (rn_rA (by omega)) (by omega) (by omega)) (fun m2 => ⟨pk_in i 32 hi, ?_⟩) (fun m2 => br_t rfl (bad (by omega) hv))
      refine ek_f (rn_e (rn_rA (by omega)) rfl (by omega) (by omega)) (fun m3 => ⟨pk_in i 32 hi, ?_⟩) (fun m3 => br_t rfl (bad (by omega) hv))
      exact ek_f (rn_e (rn_rA (by omega)) rfl (by omega) (by omega)) (fun m4 => br_f (by decide) (nm_r (nI_1 i) (good (by omega) hv))) (fun m4 => br_t rfl (bad (by omega) hv))
    · refine br_t rfl (nm_r (nI_1 i) (ih b ⟨b1, lt_s b2 (fun v => absurd v k1), ?_⟩))
      rw [b3]
      constructor
      · rintro ⟨d, d1, d2⟩; exact ⟨d, by omega, d2⟩
      · rintro ⟨d, d1, d2⟩
        rcases Nat.decEq d i with q | q
        · exact ⟨d, by omega, d2⟩
        · subst q; exact absurd d2 k1
theorem ry_can (post : Int32 → SY → Prop) {c j : Nat} {x y : Int32} (hx : x = nI c) (hy : y = nI j) (I : (rq_I ln fm tt le li rk we op mk wd wn pc ph pa pe pt se ls mo tp ac sz dw st ty ed fr sp go tk en ch ps pg cf ct la gr cr ne nl oe ol fl tl tn N)) (hW : (rq_WY ln fm tt le li we op mk fa kn)) (hc : c < 32) (hj : j < 8) (hA : (rq_ask ln fm tt le mk wn pc ph pe st ed fr go ps pg) j c) (H : ∀ kn fa gp fs th, (rq_WY ln fm tt le li we op mk fa kn) → post (rb_ ((rq_cs le ed fr sp go ps (fun x => sz (ty x))) ((rq_as ln) ((rq_nx wn ed go) c) (ps c)) c ∧ (rq_mh fm tt rk le ed fr ps pg cf ct (fun x => sz (ty x))) ((rq_ask ln fm tt le mk wn pc ph pe st ed fr go ps pg) j) j ((rq_as ln) ((rq_nx wn ed go) c) (ps c)) c)) (nI kn, nI tn, th, rn_T ln, rn_A op, rn_A fm, rn_A tt, rn_A le, rn_A ln, rn_A li, rn_A rk, rn_A we, rn_A ca, rn_A mk, rn_A fa, rn_A tp, rn_A ac, rn_A sz, rn_A dw, rn_A st, rn_A ty, rn_A ed, rn_A la, rn_A fr, rn_A sp, rn_A go, rn_A nz, rn_A tk, rn_C ch, rn_A en, rn_A nw, rn_A gr, rn_A cr, rn_A ne, rn_A nl, rn_A oe, rn_A ol, rn_A fl, rn_A pc, rn_A ph, rn_A pa, rn_A se, rn_A ls, rn_A mo, rn_A tl, gp, fs)) : wpY_can post (nI kn, nI tn, th, rn_T ln, rn_A op, rn_A fm, rn_A tt, rn_A le, rn_A ln, rn_A li, rn_A rk, rn_A we, rn_A ca, rn_A mk, rn_A fa, rn_A tp, rn_A ac, rn_A sz, rn_A dw, rn_A st, rn_A ty, rn_A ed, rn_A la, rn_A fr, rn_A sp, rn_A go, rn_A nz, rn_A tk, rn_C ch, rn_A en, rn_A nw, rn_A gr, rn_A cr, rn_A ne, rn_A nl, rn_A oe, rn_A ol, rn_A fl, rn_A pc, rn_A ph, rn_A pa, rn_A se, rn_A ls, rn_A mo, rn_A tl, gp, fs) x y := by
  subst hx hy
  have h2 := hA.1
  have n0 := hA.2.2.2.2.2.2.1
  have A := rI_c I.1 c
  obtain ⟨x1, x2⟩ := rI_nx I.1 c
  obtain ⟨s1, s2, s3⟩ := rI_as I.1 hc h2
  obtain ⟨t1, t2, t3, t4, t5, t6⟩ := s2 n0
  have C := rI_e I.1 ((rq_nx wn ed go) c - 1)
  unfold wpY_can
  refine ry_nxo _ rfl I.1 hW hc (fun kn fa hW' => ⟨rn_ic n0 x1 (by omega), ?_⟩)
  have s26 : ∀ l, l ≤ 1 → (rq_as ln) ((rq_nx wn ed go) c) (ps c) = 2 * ((rq_nx wn ed go) c - 1) + l + 1 → wY_can_26 post (nI c) (nI j) (rn_c ((rq_nx wn ed go) c)) (nI l) (nI kn) (nI tn) th (rn_T ln) (rn_A op) (rn_A fm) (rn_A tt) (rn_A le) (rn_A ln) (rn_A li) (rn_A rk) (rn_A we) (rn_A ca) (rn_A mk) (rn_A fa) (rn_A tp) (rn_A ac) (rn_A sz) (rn_A dw) (rn_A st) (rn_A ty) (rn_A ed) (rn_A la) (rn_A fr) (rn_A sp) (rn_A go) (rn_A nz) (rn_A tk) (rn_C ch) (rn_A en) (rn_A nw) (rn_A gr) (rn_A cr) (rn_A ne) (rn_A nl) (rn_A oe) (rn_A ol) (rn_A fl) (rn_A pc) (rn_A ph) (rn_A pa) (rn_A se) (rn_A ls) (rn_A mo) (rn_A tl) gp fs := by
    intro l hl hl2
    unfold wY_can_26
    refine ry_fd _ (f := (rq_nx wn ed go) c) (l := l) rfl (by rw [rn_cs n0, rn_ys n0]) rfl I.1 hc h2 x1 (fun _ => hl) (fun _ => t4) (fun gp fs t ht hTh => ⟨pk_in c 32 hc, ?_⟩)
    have es : (if (rq_nx wn ed go) c = 0 then 0 else 2 * ((rq_nx wn ed go) c - 1) + l + 1) = (rq_as ln) ((rq_nx wn ed go) c) (ps c) := by rw [if_neg (by omega)]; exact hl2.symm
    rw [es] at hTh
    have hq : 0 < (rq_as ln) ((rq_nx wn ed go) c) (ps c) → rd_q ((rq_as ln) ((rq_nx wn ed go) c) (ps c)) ≠ ed c := fun _ => by rw [t2]; exact t4
    refine ry_als _ (rn_rA (by omega)) ht (by omega) ((hTh rq_Sh).mpr ⟨rq_LdS I.1 hc h2 s1 hq, rq_EnS I.1⟩) ?_
    rw [rb_e ((hTh (rq_R (sp c))).trans (rq_csT I hc h2 s1 t1 n0 t2 t4))]
    refine rb_b (fun k => rb_q0 (H kn fa gp fs _ hW') (fun w => k w.1)) (fun k => ?_)
    rw [rn_cs n0]
    refine ry_c61 post (s := (rq_as ln) ((rq_nx wn ed go) c) (ps c)) I hW' hc h2 hj (by omega) hl hl2 (fun kn fa hW'' => ?_)
    have := H kn fa gp fs (nI t) hW''
    rw [rb_e (Q := (rq_mh fm tt rk le ed fr ps pg cf ct (fun x => sz (ty x))) ((rq_ask ln fm tt le mk wn pc ph pe st ed fr go ps pg) j) j ((rq_as ln) ((rq_nx wn ed go) c) (ps c)) c) ⟨fun w => w.2, fun w => ⟨k, w⟩⟩] at this
    exact this
  refine ek_f (rn_e (rn_Ac n0 (by omega)) (b := 1) rfl (by omega) (by omega)) (fun k8 => s26 0 (by omega) (by rw [if_pos k8] at t5; exact t5)) (fun k8 => ⟨pk_in c 32 hc, ?_⟩)
  rw [rn_rA (by omega)]
  exact s26 (la c) (by omega) (by rw [if_neg k8] at t5; exact t5)
end
end
section
/-! CROSSINGS, side by side -/
/-- ASKS and CAN -/
def rq_ab (ln fm tt le rk mk wn pc ph pe ty sz st ed fr sp go ps pg cf ct : Nat → Nat) (j c : Nat) : Prop :=
  (rq_ask ln fm tt le mk wn pc ph pe st ed fr go ps pg) j c ∧ (rq_cs le ed fr sp go ps (fun x => sz (ty x))) ((rq_as ln) ((rq_nx wn ed go) c) (ps c)) c ∧ (rq_mh fm tt rk le ed fr ps pg cf ct (fun x => sz (ty x))) ((rq_ask ln fm tt le mk wn pc ph pe st ed fr go ps pg) j) j ((rq_as ln) ((rq_nx wn ed go) c) (ps c)) c
theorem rn_vb : vp_nar .boolean 1 = 1 := rfl
section
variable {ln fm tt le li rk we op ca mk wd wn fa pc ph pa pe pt se ls mo tp ac sz dw st ty ed fr sp go nz tk en ch nw ps pg cf ct la gr cr ne nl oe ol fl tl : Nat → Nat} {tn kn N : Nat} {th : Int32} {gp fs : Nat → Int32}
theorem ry_1st (post : Int32 → SY → Prop) {j : Nat} (I : (rq_I ln fm tt le li rk we op mk wd wn pc ph pa pe pt se ls mo tp ac sz dw st ty ed fr sp go tk en ch ps pg cf ct la gr cr ne nl oe ol fl tl tn N)) (hj : j < 8) (H : ∀ kn fa gp fs th, (rq_WY ln fm tt le li we op mk fa kn) → post (rn_y (rq_1st ((rq_ab ln fm tt le rk mk wn pc ph pe ty sz st ed fr sp go ps pg cf ct) j) (rq_bf rk le ed fr ps) 32)) (nI kn, nI tn, th, rn_T ln, rn_A op, rn_A fm, rn_A tt, rn_A le, rn_A ln, rn_A li, rn_A rk, rn_A we, rn_A ca, rn_A mk, rn_A fa, rn_A tp, rn_A ac, rn_A sz, rn_A dw, rn_A st, rn_A ty, rn_A ed, rn_A la, rn_A fr, rn_A sp, rn_A go, rn_A nz, rn_A tk, rn_C ch, rn_A en, rn_A nw, rn_A gr, rn_A cr, rn_A ne, rn_A nl, rn_A oe, rn_A ol, rn_A fl, rn_A pc, rn_A ph, rn_A pa, rn_A se, rn_A ls, rn_A mo, rn_A tl, gp, fs)) : ∀ n i b kn fa gp fs th, i ≤ 32 → 32 - i < n → (rq_WY ln fm tt le li we op mk fa kn) → b = rq_1st ((rq_ab ln fm tt le rk mk wn pc ph pe ty sz st ed fr sp go ps pg cf ct) j) (rq_bf rk le ed fr ps) i → wY_firstAble_4 post (nI j) n (rn_y b) (nI i) (nI kn) (nI tn) th (rn_T ln) (rn_A op) (rn_A fm) (rn_A tt) (rn_A le) (rn_A ln) (rn_A li) (rn_A rk) (rn_A we) (rn_A ca) (rn_A mk) (rn_A fa) (rn_A tp) (rn_A ac) (rn_A sz) (rn_A dw) (rn_A st) (rn_A ty) (rn_A ed) (rn_A la) (rn_A fr) (rn_A sp) (rn_A go) (rn_A nz) (rn_A tk) (rn_C ch) (rn_A en) (rn_A nw) (rn_A gr) (rn_A cr) (rn_A ne) (rn_A nl) (rn_A oe) (rn_A ol) (rn_A fl) (rn_A pc) (rn_A ph) (rn_A pa) (rn_A se) (rn_A ls) (rn_A mo) (rn_A tl) gp fs := by
  intro n
  induction n with
  | zero => intro i b kn fa gp fs th h1 h2; omega
  | succ n ih =>
    intro i b kn fa gp fs th hi hin hW e
    have F := rq_1stS ((rq_ab ln fm tt le rk mk wn pc ph pe ty sz st ed fr sp go ps pg cf ct) j) (rq_bf rk le ed fr ps) i
    rw [← e] at F
    have b32 : b ≤ i := by rcases F with f | ⟨a, f1, f2, _⟩ <;> omega
    refine pk_le 32 i (fun z => ?_) (fun z => ry_as _ rfl rfl I.1 hW z hj (fun kn fa hW' => ?_))
    · have e32 : i = 32 := by omega
      subst e32
      rw [e]
      exact H kn fa gp fs th hW
    · refine rb_b (fun k1 => br_t rfl (nm_r (nI_1 i) (ih (i + 1) b kn fa gp fs th (by omega) (by omega) hW' (by rw [rq_1stN (fun v => k1 v.1.1)]; exact e)))) (fun k1 => ?_)
      refine ry_can _ rfl rfl I hW' z hj k1 (fun kn fa gp fs th hW'' => rb_b (fun k2 => br_t rfl (nm_r (nI_1 i) (ih (i + 1) b kn fa gp fs th (by omega) (by omega) hW'' (by rw [rq_1stN (fun v => k2 v.1.2)]; exact e)))) (fun k2 => br_f (by decide) ?_))
      refine ek_f (rn_yn (by omega)) (fun k3 => nm_r (nI_1 i) (ih (i + 1) (i + 1) kn fa gp fs th (by omega) (by omega) hW'' (by rw [rq_1stP ⟨⟨k1, k2⟩, Or.inl (by rw [← e]; exact k3)⟩]))) (fun k3 => ?_)
      have bst : st (b - 1) = 2 := by
        rcases F with f | ⟨a, f1, f2, f3⟩
        · omega
        · rw [f1]; exact f3.1.1
      refine ry_bf _ rfl (rn_ys (by omega)) I.1 z (by omega) k1.1 bst (rb_b (fun k4 => nm_r (nI_1 i) (ih (i + 1) b kn fa gp fs th (by omega) (by omega) hW'' ?_)) (fun k4 => nm_r (nI_1 i) (ih (i + 1) (i + 1) kn fa gp fs th (by omega) (by omega) hW'' ?_)))
      · rw [rq_1stN (fun v => by rw [← e] at v; exact v.2.elim k3 k4)]; exact e
      · rw [rq_1stP ⟨⟨k1, k2⟩, Or.inr (by rw [← e]; exact k4)⟩]
theorem ry_fa (post : Int32 → SY → Prop) {j : Nat} {x : Int32} (hx : x = nI j) (I : (rq_I ln fm tt le li rk we op mk wd wn pc ph pa pe pt se ls mo tp ac sz dw st ty ed fr sp go tk en ch ps pg cf ct la gr cr ne nl oe ol fl tl tn N)) (hW : (rq_WY ln fm tt le li we op mk fa kn)) (hj : j < 8) (H : ∀ kn fa gp fs th, (rq_WY ln fm tt le li we op mk fa kn) → post (rn_y (rq_1st ((rq_ab ln fm tt le rk mk wn pc ph pe ty sz st ed fr sp go ps pg cf ct) j) (rq_bf rk le ed fr ps) 32)) (nI kn, nI tn, th, rn_T ln, rn_A op, rn_A fm, rn_A tt, rn_A le, rn_A ln, rn_A li, rn_A rk, rn_A we, rn_A ca, rn_A mk, rn_A fa, rn_A tp, rn_A ac, rn_A sz, rn_A dw, rn_A st, rn_A ty, rn_A ed, rn_A la, rn_A fr, rn_A sp, rn_A go, rn_A nz, rn_A tk, rn_C ch, rn_A en, rn_A nw, rn_A gr, rn_A cr, rn_A ne, rn_A nl, rn_A oe, rn_A ol, rn_A fl, rn_A pc, rn_A ph, rn_A pa, rn_A se, rn_A ls, rn_A mo, rn_A tl, gp, fs)) : wpY_firstAble post (nI kn, nI tn, th, rn_T ln, rn_A op, rn_A fm, rn_A tt, rn_A le, rn_A ln, rn_A li, rn_A rk, rn_A we, rn_A ca, rn_A mk, rn_A fa, rn_A tp, rn_A ac, rn_A sz, rn_A dw, rn_A st, rn_A ty, rn_A ed, rn_A la, rn_A fr, rn_A sp, rn_A go, rn_A nz, rn_A tk, rn_C ch, rn_A en, rn_A nw, rn_A gr, rn_A cr, rn_A ne, rn_A nl, rn_A oe, rn_A ol, rn_A fl, rn_A pc, rn_A ph, rn_A pa, rn_A se, rn_A ls, rn_A mo, rn_A tl, gp, fs) x := by
  subst hx
  exact ⟨33, ry_1st post I hj H 33 0 0 kn fa gp fs th (by omega) (by omega) hW rfl⟩
theorem rx_fa (post : Int32 → Prop) {j : Nat} (I : (rq_I ln fm tt le li rk we op mk wd wn pc ph pa pe pt se ls mo tp ac sz dw st ty ed fr sp go tk en ch ps pg cf ct la gr cr ne nl oe ol fl tl tn N)) (hj : j < 8) (h : post (rn_c (rq_1st ((rq_ab ln fm tt le rk mk wn pc ph pe ty sz st ed fr sp go ps pg cf ct) j) (rq_bf rk le ed fr ps) 32))) : wpX_askersAt (fun r => wpX_firstThatCan post (nI tn, rn_A ln, rn_A fm, rn_A tt, rn_A le, rn_A li, rn_A rk, rn_A we, rn_A op, rn_A ca, rn_A mk, rn_B wd, rn_B wn, rn_A pc, rn_A ph, rn_A pa, rn_A pe, rn_A pt, rn_A tp, rn_A ac, rn_A sz, rn_A dw, rn_A st, rn_A ty, rn_A ed, rn_B ps, rn_A fr, rn_A sp, rn_A go, rn_A nz, rn_B pg, rn_B cf, rn_B ct, rn_A tk, rn_A en, rn_B ch, rn_A nw, rn_A tl) (nI j) r) (nI tn, rn_A ln, rn_A fm, rn_A tt, rn_A le, rn_A li, rn_A rk, rn_A we, rn_A op, rn_A ca, rn_A mk, rn_B wd, rn_B wn, rn_A pc, rn_A ph, rn_A pa, rn_A pe, rn_A pt, rn_A tp, rn_A ac, rn_A sz, rn_A dw, rn_A st, rn_A ty, rn_A ed, rn_B ps, rn_A fr, rn_A sp, rn_A go, rn_A nz, rn_B pg, rn_B cf, rn_B ct, rn_A tk, rn_A en, rn_B ch, rn_A nw, rn_A tl) (nI j) := by
  refine rx_ak _ rfl I.1 hj (fun y hy => rx_1st post rfl I hj (fun c hc w => ⟨((hy c hc).mp w).1, ((hy c hc).mp w).2.2.2.2.2.2.1⟩) ?_)
  have e : rq_1st (fun c => bt y c = true ∧ (rq_cs le ed fr sp go ps (fun x => sz (ty x))) ((rq_as ln) ((rq_nx wn ed go) c) (ps c)) c ∧ (rq_mh fm tt rk le ed fr ps pg cf ct (fun x => sz (ty x))) (fun d => bt y d = true) j ((rq_as ln) ((rq_nx wn ed go) c) (ps c)) c) (rq_bf rk le ed fr ps) 32 = rq_1st ((rq_ab ln fm tt le rk mk wn pc ph pe ty sz st ed fr sp go ps pg cf ct) j) (rq_bf rk le ed fr ps) 32 := by
    refine rq_1stE (fun c hc => ?_)
    have m : (rq_mh fm tt rk le ed fr ps pg cf ct (fun x => sz (ty x))) (fun d => bt y d = true) j ((rq_as ln) ((rq_nx wn ed go) c) (ps c)) c ↔ (rq_mh fm tt rk le ed fr ps pg cf ct (fun x => sz (ty x))) ((rq_ask ln fm tt le mk wn pc ph pe st ed fr go ps pg) j) j ((rq_as ln) ((rq_nx wn ed go) c) (ps c)) c :=
      ⟨fun w => ⟨w.1, fun v b hb k => w.2 v b hb ((hy b hb).mpr k)⟩, fun w => ⟨w.1, fun v b hb k => w.2 v b hb ((hy b hb).mp k)⟩⟩
    show (bt y c = true ∧ (rq_cs le ed fr sp go ps (fun x => sz (ty x))) ((rq_as ln) ((rq_nx wn ed go) c) (ps c)) c ∧ (rq_mh fm tt rk le ed fr ps pg cf ct (fun x => sz (ty x))) (fun d => bt y d = true) j ((rq_as ln) ((rq_nx wn ed go) c) (ps c)) c) ↔ ((rq_ask ln fm tt le mk wn pc ph pe st ed fr go ps pg) j c ∧ (rq_cs le ed fr sp go ps (fun x => sz (ty x))) ((rq_as ln) ((rq_nx wn ed go) c) (ps c)) c ∧ (rq_mh fm tt rk le ed fr ps pg cf ct (fun x => sz (ty x))) ((rq_ask ln fm tt le mk wn pc ph pe st ed fr go ps pg) j) j ((rq_as ln) ((rq_nx wn ed go) c) (ps c)) c)
    rw [hy c hc, m]
  rw [e]
  exact h
def rl_ug (pg : Nat → Nat) : Nat → Bool := fun c => decide (pg c = 0)
theorem rl_gI {j c : Nat} (I : (rq_I ln fm tt le li rk we op mk wd wn pc ph pa pe pt se ls mo tp ac sz dw st ty ed fr sp go tk en ch ps pg cf ct la gr cr ne nl oe ol fl tl tn N)) (hc : c < 32) (hA : (rq_ab ln fm tt le rk mk wn pc ph pe ty sz st ed fr sp go ps pg cf ct) j c) : (rq_I ln fm tt le li rk we op mk wd wn pc ph pa pe pt se ls mo tp ac sz dw st ty ed fr sp go tk en ch ps (ru_p pg c ((rq_as ln) ((rq_nx wn ed go) c) (ps c))) cf ct la (ru_p gr c 1) cr (ru_p ne c ((rq_nx wn ed go) c - 1)) (ru_p nl c (if ln ((rq_nx wn ed go) c - 1) = 1 then 0 else la c)) oe ol fl (ru_p tl 4 (tl 4 + 1)) tn N) := by
  obtain ⟨⟨a1, a2, a3, a4, a5, a6, a7, a8⟩, s⟩ := I
  obtain ⟨x1, x2⟩ := rI_nx ⟨a1, a2, a3, a4, a5, a6, a7, a8⟩ c
  have n0 := hA.1.2.2.2.2.2.2.1
  exact ⟨⟨a1, rq_grantC a1 a2 hc hA.1.1 n0 x1 (rq_Kf (x2 n0).2).1, a3, a4, a5, by rw [ru_n (by omega)]; exact a6, a7, a8⟩, rq_grantS a1 a2 s hc hA.1 rfl hA.2.1 hA.2.2⟩
theorem rl_cr {j : Nat} (hj : j < 8) : ∀ k (pg gr ne nl tl : Nat → Nat) (r : Nat), (rq_I ln fm tt le li rk we op mk wd wn pc ph pa pe pt se ls mo tp ac sz dw st ty ed fr sp go tk en ch ps pg cf ct la gr cr ne nl oe ol fl tl tn N) → rd_bc (rl_ug pg) 32 = k → r + k ≤ 32 →
    ∃ pg' gr' ne' nl' tl' : Nat → Nat, (rq_I ln fm tt le li rk we op mk wd wn pc ph pa pe pt se ls mo tp ac sz dw st ty ed fr sp go tk en ch ps pg' cf ct la gr' cr ne' nl' oe ol fl tl' tn N) ∧
    (∀ post (J : Int32 → (Nat → Int32) → (Nat → Int32) → (Nat → Int32) → (Nat → Int32) → (Nat → Int32) → (Nat → Int32) → (Nat → Int32) → (Nat → Int32) → (Nat → Int32) → (Nat → Int32) → (Nat → Int32) → (Nat → Int32) → (Nat → Int32) → (Nat → Int32) → (Nat → Int32) → (Nat → Int32) → (Nat → Int32) → (Nat → Int32) → (Nat → Int32) → (Nat → Int32) → (Nat → Int32) → (Nat → Int32) → (Nat → Int32) → (Nat → Int32) → (Nat → Int32) → (Nat → Int32) → (Nat → Int32) → (Nat → Int32) → (Nat → Int32) → (Nat → Int32) → (Nat → Int32) → (Nat → Int32) → (Nat → Int32) → (Nat → Int32) → (Nat → Int32) → (Nat → Int32) → (Nat → Int32) → Prop) m, J (nI (j + 1)) (rn_A ln) (rn_A fm) (rn_A tt) (rn_A le) (rn_A li) (rn_A rk) (rn_A we) (rn_A op) (rn_A ca) (rn_A mk) (rn_B wd) (rn_B wn) (rn_A pc) (rn_A ph) (rn_A pa) (rn_A pe) (rn_A pt) (rn_A tp) (rn_A ac) (rn_A sz) (rn_A dw) (rn_A st) (rn_A ty) (rn_A ed) (rn_B ps) (rn_A fr) (rn_A sp) (rn_A go) (rn_A nz) (rn_B pg') (rn_B cf) (rn_B ct) (rn_A tk) (rn_A en) (rn_B ch) (rn_A nw) (rn_A tl') → 33 - r < m → wX_grantCrossings_10 post J (nI j) (nI tn) m (nI r) (rn_A ln) (rn_A fm) (rn_A tt) (rn_A le) (rn_A li) (rn_A rk) (rn_A we) (rn_A op) (rn_A ca) (rn_A mk) (rn_B wd) (rn_B wn) (rn_A pc) (rn_A ph) (rn_A pa) (rn_A pe) (rn_A pt) (rn_A tp) (rn_A ac) (rn_A sz) (rn_A dw) (rn_A st) (rn_A ty) (rn_A ed) (rn_B ps) (rn_A fr) (rn_A sp) (rn_A go) (rn_A nz) (rn_B pg) (rn_B cf) (rn_B ct) (rn_A tk) (rn_A en) (rn_B ch) (rn_A nw) (rn_A tl)) ∧
    (∀ post m kn fa gp fs th, k < m → (rq_WY ln fm tt le li we op mk fa kn) → (∀ kn fa gp fs th, (rq_WY ln fm tt le li we op mk fa kn) → post (nI kn, nI tn, th, rn_T ln, rn_A op, rn_A fm, rn_A tt, rn_A le, rn_A ln, rn_A li, rn_A rk, rn_A we, rn_A ca, rn_A mk, rn_A fa, rn_A tp, rn_A ac, rn_A sz, rn_A dw, rn_A st, rn_A ty, rn_A ed, rn_A la, rn_A fr, rn_A sp, rn_A go, rn_A nz, rn_A tk, rn_C ch, rn_A en, rn_A nw, rn_A gr', rn_A cr, rn_A ne', rn_A nl', rn_A oe, rn_A ol, rn_A fl, rn_A pc, rn_A ph, rn_A pa, rn_A se, rn_A ls, rn_A mo, rn_A tl', gp, fs)) → wY_cross_6 post (nI j) m (rn_y (rq_1st ((rq_ab ln fm tt le rk mk wn pc ph pe ty sz st ed fr sp go ps pg cf ct) j) (rq_bf rk le ed fr ps) 32)) (nI kn) (nI tn) th (rn_T ln) (rn_A op) (rn_A fm) (rn_A tt) (rn_A le) (rn_A ln) (rn_A li) (rn_A rk) (rn_A we) (rn_A ca) (rn_A mk) (rn_A fa) (rn_A tp) (rn_A ac) (rn_A sz) (rn_A dw) (rn_A st) (rn_A ty) (rn_A ed) (rn_A la) (rn_A fr) (rn_A sp) (rn_A go) (rn_A nz) (rn_A tk) (rn_C ch) (rn_A en) (rn_A nw) (rn_A gr) (rn_A cr) (rn_A ne) (rn_A nl) (rn_A oe) (rn_A ol) (rn_A fl) (rn_A pc) (rn_A ph) (rn_A pa) (rn_A se) (rn_A ls) (rn_A mo) (rn_A tl) gp fs) := by
  intro k
  induction k with
  | zero =>
    intro pg gr ne nl tl r I hk hr
    have f0 : rq_1st ((rq_ab ln fm tt le rk mk wn pc ph pe ty sz st ed fr sp go ps pg cf ct) j) (rq_bf rk le ed fr ps) 32 = 0 := by
      rcases rq_1stS ((rq_ab ln fm tt le rk mk wn pc ph pe ty sz st ed fr sp go ps pg cf ct) j) (rq_bf rk le ed fr ps) 32 with f | ⟨a, f1, f2, f3⟩
      · exact f
      · exfalso
        have g0 : pg a = 0 := f3.1.2.2.1
        have := rd_bcD (p := rl_ug pg) (q := fun c => decide (pg c = 0) && decide (c ≠ a)) (c := a) (by unfold rl_ug; exact decide_eq_true g0) (by simp) f2 (fun b hb hba => by unfold rl_ug; simp [hba])
        omega
    refine ⟨pg, gr, ne, nl, tl, I, fun post J m h hm => ?_, fun post m kn fa gp fs th hm hW h => ?_⟩
    · obtain ⟨m', rfl⟩ : ∃ m', m = m' + 1 := ⟨m - 1, by omega⟩
      refine br_f (nI_nlt (a := 32) (b := r) (by omega) (by decide)) (rx_fa _ I hj ?_)
      rw [f0]
      exact br_t rfl (nm_r (nI_1 j) h)
    · obtain ⟨m', rfl⟩ : ∃ m', m = m' + 1 := ⟨m - 1, by omega⟩
      rw [f0]
      exact br_t (by decide) (h kn fa gp fs th hW)
  | succ k ih =>
    intro pg gr ne nl tl r I hk hr
    rcases rq_1stS ((rq_ab ln fm tt le rk mk wn pc ph pe ty sz st ed fr sp go ps pg cf ct) j) (rq_bf rk le ed fr ps) 32 with f | ⟨c, f1, c1, hA⟩
    · refine ⟨pg, gr, ne, nl, tl, I, fun post J m h hm => ?_, fun post m kn fa gp fs th hm hW h => ?_⟩
      · obtain ⟨m', rfl⟩ : ∃ m', m = m' + 1 := ⟨m - 1, by omega⟩
        refine br_f (nI_nlt (a := 32) (b := r) (by omega) (by decide)) (rx_fa _ I hj ?_)
        rw [f]
        exact br_t rfl (nm_r (nI_1 j) h)
      · obtain ⟨m', rfl⟩ : ∃ m', m = m' + 1 := ⟨m - 1, by omega⟩
        rw [f]
        exact br_t (by decide) (h kn fa gp fs th hW)
    · have I1 := rl_gI I c1 hA
      have s2 := hA.1.1
      have g0 : pg c = 0 := hA.1.2.2.1
      have n0 := hA.1.2.2.2.2.2.2.1
      obtain ⟨x1, x2⟩ := rI_nx I.1 c
      obtain ⟨u1, u2, u3⟩ := rI_as I.1 c1 s2
      obtain ⟨t1, t2, t3, t4, t5, t6⟩ := u2 n0
      have A := rI_c I.1 c
      have C := rI_e I.1 ((rq_nx wn ed go) c - 1)
      have cnt : rd_bc (rl_ug (ru_p pg c ((rq_as ln) ((rq_nx wn ed go) c) (ps c)))) 32 + 1 = rd_bc (rl_ug pg) 32 := by
        refine rd_bcD (c := c) ?_ ?_ c1 (fun a ha hac => ?_)
        · unfold rl_ug; exact decide_eq_true g0
        · unfold rl_ug; rw [ru_s]; exact decide_eq_false (by omega)
        · unfold rl_ug; rw [ru_n hac]
      obtain ⟨pg', gr', ne', nl', tl', I', xx, yy⟩ := ih _ _ _ _ _ (r + 1) I1 (by omega) (by omega)
      refine ⟨pg', gr', ne', nl', tl', I', fun post J m h hm => ?_, fun post m kn fa gp fs th hm hW h => ?_⟩
      · obtain ⟨m', rfl⟩ : ∃ m', m = m' + 1 := ⟨m - 1, by omega⟩
        refine br_f (nI_nlt (a := 32) (b := r) (by omega) (by decide)) (rx_fa _ I hj ?_)
        rw [f1]
        refine br_f (fun w => ?_) (rx_sa _ rfl I.1 c1 s2 ⟨pk_in c 32 c1, nm_r (e' := rn_B (ru_p pg c ((rq_as ln) ((rq_nx wn ed go) c) (ps c)))) ?_ (nm_r (rn_u3 4) (nm_r (nI_1 r) (xx post J m' h (by omega))))⟩)
        · have := (rn_c2 (n := c + 1) (by omega)).mp w; omega
        · show upd (rn_B pg) (nI c).toNatClampNeg (rn_c ((rq_as ln) ((rq_nx wn ed go) c) (ps c))) = _
          exact rn_uB (by omega)
      · obtain ⟨m', rfl⟩ : ∃ m', m = m' + 1 := ⟨m - 1, by omega⟩
        rw [f1]
        refine br_f (nI_pos (n := c) (by omega)) (ry_nxo _ rfl I.1 hW c1 (fun kn fa hW' => ⟨pk_in c 32 c1, nm_r (e' := rn_A (ru_p gr c 1)) ?_ ⟨pk_in c 32 c1, nm_r (e' := rn_A (ru_p ne c ((rq_nx wn ed go) c - 1))) ?_ ⟨rn_ic n0 x1 (by omega), ?_⟩⟩⟩))
        · show upd (rn_A gr) (nI c).toNatClampNeg (vp_nar .boolean 1) = _
          rw [rn_vb]
          exact rn_uA (x := 1) (by omega)
        · show upd (rn_A ne) (nI c).toNatClampNeg (rn_c ((rq_nx wn ed go) c)) = _
          rw [rn_cs n0]
          exact rn_uA (by omega)
        · have s55 : ∀ l, l = (if ln ((rq_nx wn ed go) c - 1) = 1 then 0 else la c) → wY_cross_55 post (wY_cross_6 post (nI j) m') (nI j) (nI l) (nI c) (nI kn) (nI tn) th (rn_T ln) (rn_A op) (rn_A fm) (rn_A tt) (rn_A le) (rn_A ln) (rn_A li) (rn_A rk) (rn_A we) (rn_A ca) (rn_A mk) (rn_A fa) (rn_A tp) (rn_A ac) (rn_A sz) (rn_A dw) (rn_A st) (rn_A ty) (rn_A ed) (rn_A la) (rn_A fr) (rn_A sp) (rn_A go) (rn_A nz) (rn_A tk) (rn_C ch) (rn_A en) (rn_A nw) (rn_A (ru_p gr c 1)) (rn_A cr) (rn_A (ru_p ne c ((rq_nx wn ed go) c - 1))) (rn_A nl) (rn_A oe) (rn_A ol) (rn_A fl) (rn_A pc) (rn_A ph) (rn_A pa) (rn_A se) (rn_A ls) (rn_A mo) (rn_A tl) gp fs := by
            intro l hl
            rw [← hl] at I1 yy
            refine ⟨pk_in c 32 c1, nm_r (rn_uA (by omega)) (nm_r (rn_u3 4) (ry_fa _ rfl I1 hW' hj (fun kn fa gp fs th hW'' => yy post m' kn fa gp fs th (by omega) hW'' h)))⟩
          refine ek_f (rn_e (rn_Ac n0 (by omega)) (b := 1) rfl (by omega) (by omega)) (fun k8 => s55 0 (by rw [if_pos k8])) (fun k8 => ⟨pk_in c 32 c1, ?_⟩)
          have r1 : rn_A la (rn_y (c + 1)).toNatClampNeg = nI (la c) := rn_rA (by omega)
          rw [r1]
          exact s55 (la c) (by rw [if_neg k8])
theorem rl_crj {j : Nat} (hj : j < 8) (I : (rq_I ln fm tt le li rk we op mk wd wn pc ph pa pe pt se ls mo tp ac sz dw st ty ed fr sp go tk en ch ps pg cf ct la gr cr ne nl oe ol fl tl tn N)) : ∃ pg' gr' ne' nl' tl' : Nat → Nat, (rq_I ln fm tt le li rk we op mk wd wn pc ph pa pe pt se ls mo tp ac sz dw st ty ed fr sp go tk en ch ps pg' cf ct la gr' cr ne' nl' oe ol fl tl' tn N) ∧
    (∀ post (J : Int32 → (Nat → Int32) → (Nat → Int32) → (Nat → Int32) → (Nat → Int32) → (Nat → Int32) → (Nat → Int32) → (Nat → Int32) → (Nat → Int32) → (Nat → Int32) → (Nat → Int32) → (Nat → Int32) → (Nat → Int32) → (Nat → Int32) → (Nat → Int32) → (Nat → Int32) → (Nat → Int32) → (Nat → Int32) → (Nat → Int32) → (Nat → Int32) → (Nat → Int32) → (Nat → Int32) → (Nat → Int32) → (Nat → Int32) → (Nat → Int32) → (Nat → Int32) → (Nat → Int32) → (Nat → Int32) → (Nat → Int32) → (Nat → Int32) → (Nat → Int32) → (Nat → Int32) → (Nat → Int32) → (Nat → Int32) → (Nat → Int32) → (Nat → Int32) → (Nat → Int32) → (Nat → Int32) → Prop), J (nI (j + 1)) (rn_A ln) (rn_A fm) (rn_A tt) (rn_A le) (rn_A li) (rn_A rk) (rn_A we) (rn_A op) (rn_A ca) (rn_A mk) (rn_B wd) (rn_B wn) (rn_A pc) (rn_A ph) (rn_A pa) (rn_A pe) (rn_A pt) (rn_A tp) (rn_A ac) (rn_A sz) (rn_A dw) (rn_A st) (rn_A ty) (rn_A ed) (rn_B ps) (rn_A fr) (rn_A sp) (rn_A go) (rn_A nz) (rn_B pg') (rn_B cf) (rn_B ct) (rn_A tk) (rn_A en) (rn_B ch) (rn_A nw) (rn_A tl') → ∃ m, wX_grantCrossings_10 post J (nI j) (nI tn) m 0 (rn_A ln) (rn_A fm) (rn_A tt) (rn_A le) (rn_A li) (rn_A rk) (rn_A we) (rn_A op) (rn_A ca) (rn_A mk) (rn_B wd) (rn_B wn) (rn_A pc) (rn_A ph) (rn_A pa) (rn_A pe) (rn_A pt) (rn_A tp) (rn_A ac) (rn_A sz) (rn_A dw) (rn_A st) (rn_A ty) (rn_A ed) (rn_B ps) (rn_A fr) (rn_A sp) (rn_A go) (rn_A nz) (rn_B pg) (rn_B cf) (rn_B ct) (rn_A tk) (rn_A en) (rn_B ch) (rn_A nw) (rn_A tl)) ∧
    (∀ post kn fa gp fs th, (rq_WY ln fm tt le li we op mk fa kn) → (∀ kn fa gp fs th, (rq_WY ln fm tt le li we op mk fa kn) → post (nI kn, nI tn, th, rn_T ln, rn_A op, rn_A fm, rn_A tt, rn_A le, rn_A ln, rn_A li, rn_A rk, rn_A we, rn_A ca, rn_A mk, rn_A fa, rn_A tp, rn_A ac, rn_A sz, rn_A dw, rn_A st, rn_A ty, rn_A ed, rn_A la, rn_A fr, rn_A sp, rn_A go, rn_A nz, rn_A tk, rn_C ch, rn_A en, rn_A nw, rn_A gr', rn_A cr, rn_A ne', rn_A nl', rn_A oe, rn_A ol, rn_A fl, rn_A pc, rn_A ph, rn_A pa, rn_A se, rn_A ls, rn_A mo, rn_A tl', gp, fs)) → wpY_cross post (nI kn, nI tn, th, rn_T ln, rn_A op, rn_A fm, rn_A tt, rn_A le, rn_A ln, rn_A li, rn_A rk, rn_A we, rn_A ca, rn_A mk, rn_A fa, rn_A tp, rn_A ac, rn_A sz, rn_A dw, rn_A st, rn_A ty, rn_A ed, rn_A la, rn_A fr, rn_A sp, rn_A go, rn_A nz, rn_A tk, rn_C ch, rn_A en, rn_A nw, rn_A gr, rn_A cr, rn_A ne, rn_A nl, rn_A oe, rn_A ol, rn_A fl, rn_A pc, rn_A ph, rn_A pa, rn_A se, rn_A ls, rn_A mo, rn_A tl, gp, fs) (nI j)) := by
  obtain ⟨pg', gr', ne', nl', tl', I', x, y⟩ := rl_cr hj _ pg gr ne nl tl 0 I rfl (by have := rd_bcL (rl_ug pg) 32; omega)
  refine ⟨pg', gr', ne', nl', tl', I', fun post J h => ⟨34, x post J 34 h (by omega)⟩, fun post kn fa gp fs th hW h => ?_⟩
  unfold wpY_cross
  exact ry_fa _ rfl I hW hj (fun kn fa gp fs th hW' => ⟨_, y post _ kn fa gp fs th (Nat.lt_succ_self _) hW' h⟩)
theorem rl_cra : ∀ d j, j + d = 8 → ∀ pg gr ne nl tl : Nat → Nat, (rq_I ln fm tt le li rk we op mk wd wn pc ph pa pe pt se ls mo tp ac sz dw st ty ed fr sp go tk en ch ps pg cf ct la gr cr ne nl oe ol fl tl tn N) → ∃ pg' gr' ne' nl' tl' : Nat → Nat, (rq_I ln fm tt le li rk we op mk wd wn pc ph pa pe pt se ls mo tp ac sz dw st ty ed fr sp go tk en ch ps pg' cf ct la gr' cr ne' nl' oe ol fl tl' tn N) ∧
    (∀ post, post (nI tn, rn_A ln, rn_A fm, rn_A tt, rn_A le, rn_A li, rn_A rk, rn_A we, rn_A op, rn_A ca, rn_A mk, rn_B wd, rn_B wn, rn_A pc, rn_A ph, rn_A pa, rn_A pe, rn_A pt, rn_A tp, rn_A ac, rn_A sz, rn_A dw, rn_A st, rn_A ty, rn_A ed, rn_B ps, rn_A fr, rn_A sp, rn_A go, rn_A nz, rn_B pg', rn_B cf, rn_B ct, rn_A tk, rn_A en, rn_B ch, rn_A nw, rn_A tl') → wX_grantCrossings_2 post (nI tn) (d + 1) (nI j) (rn_A ln) (rn_A fm) (rn_A tt) (rn_A le) (rn_A li) (rn_A rk) (rn_A we) (rn_A op) (rn_A ca) (rn_A mk) (rn_B wd) (rn_B wn) (rn_A pc) (rn_A ph) (rn_A pa) (rn_A pe) (rn_A pt) (rn_A tp) (rn_A ac) (rn_A sz) (rn_A dw) (rn_A st) (rn_A ty) (rn_A ed) (rn_B ps) (rn_A fr) (rn_A sp) (rn_A go) (rn_A nz) (rn_B pg) (rn_B cf) (rn_B ct) (rn_A tk) (rn_A en) (rn_B ch) (rn_A nw) (rn_A tl)) ∧
    (∀ post kn fa gp fs th, (rq_WY ln fm tt le li we op mk fa kn) → (∀ kn fa gp fs th, (rq_WY ln fm tt le li we op mk fa kn) → ∃ n97, wY_stepOn_97 post n97 0 (nI kn) (nI tn) th (rn_T ln) (rn_A op) (rn_A fm) (rn_A tt) (rn_A le) (rn_A ln) (rn_A li) (rn_A rk) (rn_A we) (rn_A ca) (rn_A mk) (rn_A fa) (rn_A tp) (rn_A ac) (rn_A sz) (rn_A dw) (rn_A st) (rn_A ty) (rn_A ed) (rn_A la) (rn_A fr) (rn_A sp) (rn_A go) (rn_A nz) (rn_A tk) (rn_C ch) (rn_A en) (rn_A nw) (rn_A gr') (rn_A cr) (rn_A ne') (rn_A nl') (rn_A oe) (rn_A ol) (rn_A fl) (rn_A pc) (rn_A ph) (rn_A pa) (rn_A se) (rn_A ls) (rn_A mo) (rn_A tl') gp fs) → wY_stepOn_78 post (d + 1) (nI j) (nI kn) (nI tn) th (rn_T ln) (rn_A op) (rn_A fm) (rn_A tt) (rn_A le) (rn_A ln) (rn_A li) (rn_A rk) (rn_A we) (rn_A ca) (rn_A mk) (rn_A fa) (rn_A tp) (rn_A ac) (rn_A sz) (rn_A dw) (rn_A st) (rn_A ty) (rn_A ed) (rn_A la) (rn_A fr) (rn_A sp) (rn_A go) (rn_A nz) (rn_A tk) (rn_C ch) (rn_A en) (rn_A nw) (rn_A gr) (rn_A cr) (rn_A ne) (rn_A nl) (rn_A oe) (rn_A ol) (rn_A fl) (rn_A pc) (rn_A ph) (rn_A pa) (rn_A se) (rn_A ls) (rn_A mo) (rn_A tl) gp fs) := by
  intro d
  induction d with
  | zero =>
    intro j hj pg gr ne nl tl I
    have e8 : j = 8 := by omega
    subst e8
    exact ⟨pg, gr, ne, nl, tl, I, fun post h => br_t (by decide) h, fun post kn fa gp fs th hW h => br_t (by decide) (h kn fa gp fs th hW)⟩
  | succ d ih =>
    intro j hj pg gr ne nl tl I
    have j8 : j < 8 := by omega
    obtain ⟨pg1, gr1, ne1, nl1, tl1, I1, x1, y1⟩ := rl_crj j8 I
    obtain ⟨pg', gr', ne', nl', tl', I', x, y⟩ := ih (j + 1) (by omega) pg1 gr1 ne1 nl1 tl1 I1
    exact ⟨pg', gr', ne', nl', tl', I', fun post h => br_f (nI_ge (b := 8) j8 (by decide)) (x1 post _ (x post h)), fun post kn fa gp fs th hW h => br_f (nI_ge (b := 8) j8 (by decide)) (y1 _ kn fa gp fs th hW (fun kn fa gp fs th hW' => nm_r (nI_1 j) (y post kn fa gp fs th hW' h)))⟩
end
end
section
/-! MOVES: the speeds -/
theorem rd_grX (P : Nat → Prop) : ∀ s, ∃ u, rd_gr P s u
  | 0 => ⟨0, Nat.le_refl _, Or.inl rfl, fun x hx hs => by omega⟩
  | s + 1 => by
    obtain ⟨u, h1, h2, h3⟩ := rd_grX P s
    rcases Classical.em (P (s + 1)) with p | p
    · exact ⟨s + 1, Nat.le_refl _, Or.inr p, fun x hx hs => by omega⟩
    · refine ⟨u, by omega, h2, fun x hx hs => ?_⟩
      rcases Nat.decEq x (s + 1) with q | q
      · exact h3 x hx (by omega)
      · subst q; exact p
theorem rx_h26 (post : Int32 → Prop) {g w s u : Nat} (hg : g < 100000) (hw : w < 64) (hs : s < 64) (hu : rd_gr (rd_ok g w) s u) (h : post (nI u)) : ∀ x n, x < n → x ≤ s → u ≤ x → wX_heldBack_26 post (nI (g + (w - 2))) (nI (g + rd_D w)) n (nI x) := by
  have d2 := rn_D6 w hw
  intro x
  induction x with
  | zero =>
    intro n hn _ hux
    obtain ⟨n', rfl⟩ : ∃ n', n = n' + 1 := ⟨n - 1, by omega⟩
    have : u = 0 := by omega
    subst this
    exact br_t (by decide) h
  | succ x ih =>
    intro n hn hxs hux
    obtain ⟨n', rfl⟩ : ∃ n', n = n' + 1 := ⟨n - 1, by omega⟩
    have d1 := rn_D6 (x + 1) (by omega)
    have low : ¬ rd_ok g w (x + 1) → u ≤ x := by
      intro k
      rcases Nat.decEq u (x + 1) with q | q
      · omega
      · subst q
        rcases hu.2.1 with y | y
        · omega
        · exact absurd y k
    have top : rd_ok g w (x + 1) → u = x + 1 := by
      intro k
      rcases Nat.decEq u (x + 1) with q | q
      · exact absurd k (hu.2.2 (x + 1) (by omega) hxs)
      · exact q
    refine br_f (nI_nle (by omega) (by omega)) (pk_lt (g + (w - 2)) (x + 1) (fun k => nm_r (pk_m1 x) (ih n' (by omega) (by omega) (low (fun y => by have := y.1; omega)))) (fun k => rx_bs _ (by omega) ?_))
    rw [nI_add]
    refine pk_lt (g + rd_D w) (x + 1 + rd_D (x + 1)) (fun k2 => nm_r (pk_m1 x) (ih n' (by omega) (by omega) (low (fun y => by have := y.2; omega)))) (fun k2 => ?_)
    rw [← top ⟨k, k2⟩]
    exact h
theorem rx_hb (post : Int32 → Prop) {g w s u : Nat} {x y z : Int32} (hx : x = nI s) (hy : y = nI g) (hz : z = nI w) (hg : g < 100000) (hw : w < 64) (hs : s < 64) (hu : rd_gr (rd_ok g w) s u) (h : post (nI u)) : wpX_heldBack post x y z := by
  subst hx hy hz
  have d2 := rn_D6 w hw
  have key : wX_heldBack_14 post (nI s) (nI g) (nI w) (nI (g + (w - 2))) := by
    unfold wX_heldBack_14
    exact rx_bs _ hw (nm_r (nI_add _ _) ⟨s + 1, rx_h26 post hg hw hs hu h s (s + 1) (by omega) (by omega) hu.1⟩)
  refine pk_le w 2 (fun k => ?_) (fun k => ?_)
  · have e : g + (w - 2) = g := by omega
    rw [e] at key; exact key
  · rw [nI_add, show (2 : Int32) = nI 2 from rfl, pk_sub (by omega)]
    have e : g + (w - 2) = g + w - 2 := by omega
    rw [e] at key; exact key
/-- what holds of a speed and a thing -/
def rq_F (u : Nat) (g w : Int32) : Prop := (u : Int) ≤ g.toInt + ((w.toNatClampNeg - 2 : Nat) : Int) ∧ (u : Int) + rd_D u ≤ g.toInt + rd_D w.toNatClampNeg
theorem rq_FE {u b : Nat} {a : Int} (ha : -100000 < a ∧ a < 100000) (hb : b < 64) : rq_F u (ri_z a) (nI b) ↔ ((u : Int) ≤ a + ((b - 2 : Nat) : Int) ∧ (u : Int) + rd_D u ≤ a + rd_D b) := by
  unfold rq_F
  rw [ri_toInt (by omega) (by omega), nI_clamp (by omega)]
theorem rq_FN {u b g : Nat} (hg : g < 100000) (hb : b < 64) : rq_F u (ri_z (g : Int)) (nI b) ↔ rd_ok g b u := by
  rw [rq_FE (by omega) hb]
  unfold rd_ok
  omega
section
variable {ln fm tt le li rk we op ca mk wd wn fa pc ph pa pe pt se ls mo tp ac sz dw st ty ed fr sp go nz tk en ch nw ps pg cf ct la gr cr ne nl oe ol fl tl : Nat → Nat} {tn kn N : Nat} {th : Int32} {gp fs : Nat → Int32}
/-- the gap up to the END, a natural number -/
def rq_gE (le ed fr go pg : Nat → Nat) (c : Nat) : Nat := if pg c = 0 then (if go c = ed c then 1000 else le (ed c) - fr c) else (if go c = rd_q (pg c) then 1000 else le (ed c) + le (rd_q (pg c)) - fr c)
theorem rq_gEz (I : (rq_I ln fm tt le li rk we op mk wd wn pc ph pa pe pt se ls mo tp ac sz dw st ty ed fr sp go tk en ch ps pg cf ct la gr cr ne nl oe ol fl tl tn N)) {c : Nat} (hc : c < 32) (h2 : st c = 2) : rq_ge le ed fr go (pg c) c = ((rq_gE le ed fr go pg c : Nat) : Int) ∧ rq_gE le ed fr go pg c < 100000 := by
  have F := rI_fre I hc h2
  have B := rI_e I.1 (ed c)
  have C := rI_e I.1 (rd_q (pg c))
  unfold rq_ge rq_gE
  split
  · split
    · exact ⟨rfl, by omega⟩
    · exact ⟨by omega, by omega⟩
  · split
    · exact ⟨rfl, by omega⟩
    · exact ⟨by omega, by omega⟩
theorem rq_gEs {c x : Nat} (hx : x ≤ 12) : rd_ok (rq_gE le ed fr go pg c) 0 x ↔ (rq_sE le ed fr go pg) c x := by
  have d := rn_D12 x (by omega)
  have far : rd_ok 1000 0 x := by unfold rd_ok; rw [rd_D0]; omega
  unfold rq_gE rq_sE
  by_cases z : pg c = 0
  · rw [if_pos z]
    by_cases w : go c = ed c
    · rw [if_pos w]
      exact ⟨fun _ => ⟨fun _ y => absurd w y, fun y => by omega⟩, fun _ => far⟩
    · rw [if_neg w]
      exact ⟨fun k => ⟨fun _ _ => k, fun y => by omega⟩, fun k => k.1 z w⟩
  · rw [if_neg z]
    by_cases w : go c = rd_q (pg c)
    · rw [if_pos w]
      exact ⟨fun _ => ⟨fun y => absurd y z, fun _ y => absurd w y⟩, fun _ => far⟩
    · rw [if_neg w]
      exact ⟨fun k => ⟨fun y => absurd y z, fun _ _ => k⟩, fun k => k.2 (by omega) w⟩
theorem rI_pq (I : (rq_I ln fm tt le li rk we op mk wd wn pc ph pa pe pt se ls mo tp ac sz dw st ty ed fr sp go tk en ch ps pg cf ct la gr cr ne nl oe ol fl tl tn N)) {c : Nat} (hc : c < 32) : 0 < pg c → rd_q (pg c) ≠ ed c := by
  intro g
  obtain ⟨g1, _⟩ := rq_pgS I.1.2.1 hc g
  have := ((I.2.2.2.2.2.2 c hc).2 g).2.2.2
  rw [(rq_psE I.1.2.1 hc g1).1] at this
  exact this
/-- the gap to the one AHEAD, a natural number -/
theorem rq_gL (I : (rq_I ln fm tt le li rk we op mk wd wn pc ph pa pe pt se ls mo tp ac sz dw st ty ed fr sp go tk en ch ps pg cf ct la gr cr ne nl oe ol fl tl tn N)) {c a : Nat} (hc : c < 32) (h2 : st c = 2) (ha : rq_le fr ps (pg c) c = a + 1) : a < 32 ∧ (ed a = ed c → ((fr a : Int) - sz (ty a) - 1 - fr c = ((fr a - sz (ty a) - 1 - fr c : Nat) : Int)) ∧ ∀ x, rd_ok (fr a - sz (ty a) - 1 - fr c) (sp a) x ↔ (rq_sL le ed fr sp ps pg (fun x => sz (ty x))) c x) ∧ (ed a ≠ ed c → ((fr a : Int) - sz (ty a) - 1 - fr c + le (ed c) = ((fr a + le (ed c) - sz (ty a) - 1 - fr c : Nat) : Int)) ∧ ∀ x, rd_ok (fr a + le (ed c) - sz (ty a) - 1 - fr c) (sp a) x ↔ (rq_sL le ed fr sp ps pg (fun x => sz (ty x))) c x) := by
  obtain ⟨a1, a2, a3⟩ := rI_leC I.1 hc h2 (rI_pg I.1 c hc) (rI_pq I hc) ha
  obtain ⟨q1, q2, q3, q4, q5, q6⟩ := rq_psE I.1.2.1 hc h2
  refine ⟨a1, fun e => ?_, fun e => ?_⟩
  · rcases a3 with ⟨z1, z2⟩ | ⟨z1, _⟩
    · rcases rd_nrS (ps := ps) (fr := fr) (s := ps c) (p := fr c) 32 with ⟨k1, _⟩ | ⟨b, k1, k2, k3, k4, _⟩
      · omega
      · have eb : b = a := by omega
        subst eb
        have f := ((I.2.1 c b hc k2 (by intro y; subst y; omega) q2 k3).2 k4).1
        have f' : fr c + sz (ty b) + 1 ≤ fr b := f
        refine ⟨by omega, fun x => ⟨fun w => ⟨fun d hd => ?_, fun y => by omega⟩, fun w => w.1 b z2⟩⟩
        have : d = b := by omega
        subst this
        exact w
    · exact absurd e z1
  · rcases a3 with ⟨z1, _⟩ | ⟨z1, z2, z3, z4⟩
    · exact absurd z1 e
    · rcases rd_nrS (ps := ps) (fr := fr) (s := pg c) (p := 0) 32 with ⟨k1, _⟩ | ⟨b, k1, k2, k3, k4, _⟩
      · omega
      · have eb : b = a := by omega
        subst eb
        have f := (I.2.2.1 c b hc k2 z3 k3).1
        rw [q1] at f
        have f' : fr c + sz (ty b) + 1 ≤ fr b + le (ed c) := f
        refine ⟨by omega, fun x => ⟨fun w => ⟨fun d hd => by omega, fun _ _ d hd => ?_⟩, fun w => w.2 z2 z3 b z4⟩⟩
        have : d = b := by omega
        subst this
        exact w
theorem rq_sLn {c x : Nat} (h : rq_le fr ps (pg c) c = 0) : (rq_sL le ed fr sp ps pg (fun x => sz (ty x))) c x := by
  unfold rq_le at h
  refine ⟨fun a ha => ?_, fun n0 g0 b hb => ?_⟩
  · rw [if_neg (by omega)] at h; omega
  · rw [if_pos n0, if_neg (by omega)] at h; omega
theorem rx_wi (post : Int32 → Prop) {c : Nat} {x : Int32} (hx : x = nI c) (I : (rq_L ln fm tt le li rk we op mk wd wn pc ph pa pe pt se ls mo tp ac sz dw st ty ed fr sp go tk en ch ps pg cf ct la gr cr ne nl oe ol fl tl tn N)) (hc : c < 32) (h : post (nI ((rq_wish li tp ac ty ed sp) c))) : wpX_wishOf post (nI tn, rn_A ln, rn_A fm, rn_A tt, rn_A le, rn_A li, rn_A rk, rn_A we, rn_A op, rn_A ca, rn_A mk, rn_B wd, rn_B wn, rn_A pc, rn_A ph, rn_A pa, rn_A pe, rn_A pt, rn_A tp, rn_A ac, rn_A sz, rn_A dw, rn_A st, rn_A ty, rn_A ed, rn_B ps, rn_A fr, rn_A sp, rn_A go, rn_A nz, rn_B pg, rn_B cf, rn_B ct, rn_A tk, rn_A en, rn_B ch, rn_A nw, rn_A tl) x := by
  subst hx
  have A := rI_c I c
  have B := rI_e I (ed c)
  have T := rI_y I c
  have s67 : ∀ z : Nat, z = max (min (tp (ty c)) (li (ed c))) (sp c - 2) → wX_wishOf_67 post (nI c) (nI (ty c)) (nI z) (nI tn) (rn_A ln) (rn_A fm) (rn_A tt) (rn_A le) (rn_A li) (rn_A rk) (rn_A we) (rn_A op) (rn_A ca) (rn_A mk) (rn_B wd) (rn_B wn) (rn_A pc) (rn_A ph) (rn_A pa) (rn_A pe) (rn_A pt) (rn_A tp) (rn_A ac) (rn_A sz) (rn_A dw) (rn_A st) (rn_A ty) (rn_A ed) (rn_B ps) (rn_A fr) (rn_A sp) (rn_A go) (rn_A nz) (rn_B pg) (rn_B cf) (rn_B ct) (rn_A tk) (rn_A en) (rn_B ch) (rn_A nw) (rn_A tl) := by
    intro z hz
    refine ⟨pk_in c 32 hc, vp_in_nI (by omega) (by omega), ?_⟩
    rw [rn_rA (by omega), rn_rA (by omega), nI_add]
    refine pk_le (sp c + ac (ty c)) z (fun k => ⟨pk_in c 32 hc, vp_in_nI (by omega) (by omega), ?_⟩) (fun k => ?_)
    · have e : (rq_wish li tp ac ty ed sp) c = sp c + ac (ty c) := by unfold rq_wish; omega
      rw [e] at h; exact h
    · have e : (rq_wish li tp ac ty ed sp) c = z := by unfold rq_wish; omega
      rw [e] at h; exact h
  have s39 : ∀ z : Nat, z = min (tp (ty c)) (li (ed c)) → wX_wishOf_39 post (nI c) (nI (ty c)) (nI z) (nI tn) (rn_A ln) (rn_A fm) (rn_A tt) (rn_A le) (rn_A li) (rn_A rk) (rn_A we) (rn_A op) (rn_A ca) (rn_A mk) (rn_B wd) (rn_B wn) (rn_A pc) (rn_A ph) (rn_A pa) (rn_A pe) (rn_A pt) (rn_A tp) (rn_A ac) (rn_A sz) (rn_A dw) (rn_A st) (rn_A ty) (rn_A ed) (rn_B ps) (rn_A fr) (rn_A sp) (rn_A go) (rn_A nz) (rn_B pg) (rn_B cf) (rn_B ct) (rn_A tk) (rn_A en) (rn_B ch) (rn_A nw) (rn_A tl) := by
    intro z hz
    refine ⟨pk_in c 32 hc, ?_⟩
    have e1 : rn_A sp (nI c).toNatClampNeg - 2 = ri_z ((sp c : Int) - 2) := by rw [rn_rA (by omega), ri_n, show (2 : Int32) = ri_z 2 from ri_n 2, ri_sub]
    refine ek_f (ri_l e1 (ri_n z) (by omega) (by omega)) (fun k => s67 z (by omega)) (fun k => ⟨pk_in c 32 hc, ?_⟩)
    have e2 : rn_A sp (nI c).toNatClampNeg - 2 = nI (sp c - 2) := by rw [rn_rA (by omega), show (2 : Int32) = nI 2 from rfl, pk_sub (by omega)]
    rw [e2]
    exact s67 (sp c - 2) (by omega)
  refine ⟨pk_in c 32 hc, nm_r (rn_rA (by omega)) ⟨pk_in c 32 hc, rn_iA (by omega) A.2.2.1 (by omega), nm_r (rn_AA (by omega) (by omega)) ⟨vp_in_nI (by omega) (by omega), ?_⟩⟩⟩
  rw [rn_rA (i := ty c) (by omega)]
  exact pk_le (li (ed c)) (tp (ty c)) (fun k => s39 _ (by omega)) (fun k => ⟨vp_in_nI (by omega) (by omega), s39 _ (by omega)⟩)
theorem rx_gs (post : Int32 → Prop) {c : Nat} {x : Int32} (hx : x = nI c) (I : (rq_I ln fm tt le li rk we op mk wd wn pc ph pa pe pt se ls mo tp ac sz dw st ty ed fr sp go tk en ch ps pg cf ct la gr cr ne nl oe ol fl tl tn N)) (hc : c < 32) (h2 : st c = 2) (H : ∀ u, rd_gr (fun y => (rq_sE le ed fr go pg) c y ∧ (rq_sL le ed fr sp ps pg (fun x => sz (ty x))) c y) ((rq_wish li tp ac ty ed sp) c) u → post (nI u)) : wpX_greatestSpeed post (nI tn, rn_A ln, rn_A fm, rn_A tt, rn_A le, rn_A li, rn_A rk, rn_A we, rn_A op, rn_A ca, rn_A mk, rn_B wd, rn_B wn, rn_A pc, rn_A ph, rn_A pa, rn_A pe, rn_A pt, rn_A tp, rn_A ac, rn_A sz, rn_A dw, rn_A st, rn_A ty, rn_A ed, rn_B ps, rn_A fr, rn_A sp, rn_A go, rn_A nz, rn_B pg, rn_B cf, rn_B ct, rn_A tk, rn_A en, rn_B ch, rn_A nw, rn_A tl) x := by
  subst hx
  have A := rI_c I.1 c
  have T := rI_y I.1 c
  have P := rI_pg I.1 c hc
  have w12 : (rq_wish li tp ac ty ed sp) c ≤ 12 := rq_wishU T.2.1 A.2.2.2.2.2.1
  obtain ⟨g1, g2⟩ := rq_gEz I hc h2
  obtain ⟨u1, hu1⟩ := rd_grX (rd_ok (rq_gE le ed fr go pg c) 0) ((rq_wish li tp ac ty ed sp) c)
  have hE : rd_gr (fun y => (rq_sE le ed fr go pg) c y) ((rq_wish li tp ac ty ed sp) c) u1 := rd_grE (fun x _ hx => rq_gEs (by omega)) hu1
  have L := rI_leB I.1 (s := pg c) hc
  have dn : ∀ x y, x ≤ y → 0 < x → (rq_sE le ed fr go pg) c y → (rq_sE le ed fr go pg) c x := fun x y a b k => ⟨fun m n => rd_okD _ _ a b (k.1 m n), fun m n => rd_okD _ _ a b (k.2 m n)⟩
  refine ⟨pk_in c 32 hc, rx_ge _ rfl (rn_rB (by omega)) I.1 hc P ?_⟩
  rw [g1, ← ri_n]
  refine rx_wi _ rfl I.1 hc (rx_hb _ rfl rfl (w := 0) rfl g2 (by omega) (by omega) hu1 ⟨pk_in c 32 hc, rx_le _ rfl (rn_rB (by omega)) I.1 hc h2 P ?_⟩)
  have u12 := hu1.1
  refine ek_f (rn_c2 (by omega)) (fun k => H u1 (rd_grE (fun x _ _ => ⟨fun w => ⟨w, rq_sLn k⟩, fun w => w.1⟩) hE)) (fun k => ?_)
  obtain ⟨a, ha⟩ : ∃ a, rq_le fr ps (pg c) c = a + 1 := ⟨rq_le fr ps (pg c) c - 1, by omega⟩
  obtain ⟨a1, a2, a3⟩ := rq_gL I hc h2 ha
  have D := rI_c I.1 a
  have B := rI_e I.1 (ed c)
  rw [ha]
  have r1 : rn_A sp (rn_c (a + 1)).toNatClampNeg = nI (sp a) := rn_rA (by omega)
  rcases Nat.decEq (ed a) (ed c) with q | q
  · obtain ⟨e1, e2⟩ := a3 q
    refine rx_gq _ rfl rfl I.1 hc a1 q ⟨pk_in a 32 a1, ?_⟩
    rw [r1, e1, ← ri_n]
    obtain ⟨u2, hu2⟩ := rd_grX (rd_ok (fr a + le (ed c) - sz (ty a) - 1 - fr c) (sp a)) u1
    exact rx_hb _ rfl rfl rfl (by omega) (by omega) (by omega) hu2 (H u2 (rd_gr2 dn hE (rd_grE (fun x _ _ => e2 x) hu2)))
  · obtain ⟨e1, e2⟩ := a2 q
    refine rx_gp _ rfl rfl I.1 hc a1 q ⟨pk_in a 32 a1, ?_⟩
    rw [r1, e1, ← ri_n]
    obtain ⟨u2, hu2⟩ := rd_grX (rd_ok (fr a - sz (ty a) - 1 - fr c) (sp a)) u1
    exact rx_hb _ rfl rfl rfl (by omega) (by omega) (by omega) hu2 (H u2 (rd_gr2 dn hE (rd_grE (fun x _ _ => e2 x) hu2)))
end
end
section
/-! MOVES: Y's speeds, the dawdling, all the cars -/
/-- the noise that decides -/
def rq_rm (z : Nat) : Int32 := (((nI z).toUInt32 >>> ((16 : Int32).toUInt32 &&& Int32.toUInt32 31)).toInt32) - (((nI z).toUInt32 >>> ((16 : Int32).toUInt32 &&& Int32.toUInt32 31)).toInt32) / 10 * 10
noncomputable def rq_dd (d z v u : Nat) : Nat := @ite Nat (¬ nI d ≤ rq_rm z ∧ 0 < u ∧ v ≤ u + 1) (Classical.propDecidable _) (u - 1) u
theorem rq_ddI (d z v u : Nat) : rq_dd d z v u = u ∨ (rq_dd d z v u + 1 = u ∧ v ≤ rq_dd d z v u + 2) := by
  unfold rq_dd
  by_cases h : ¬ nI d ≤ rq_rm z ∧ 0 < u ∧ v ≤ u + 1
  · rw [if_pos h]; omega
  · rw [if_neg h]; exact Or.inl rfl
def rq_nz (z : Nat) : Nat := z * 1103515245 + 12345
theorem rn_nz {nz : Nat → Nat} {c : Nat} (hc : c < 2 ^ 31) : upd (rn_A nz) (nI c).toNatClampNeg (rn_A nz (nI c).toNatClampNeg * 1103515245 + 12345) = rn_A (ru_p nz c (rq_nz (nz c))) := by
  rw [rn_rA hc, show (1103515245 : Int32) = nI 1103515245 from rfl, show (12345 : Int32) = nI 12345 from rfl, pk_mul, nI_add]
  exact rn_uA hc
section
variable {ln fm tt le li rk we op ca mk wd wn fa pc ph pa pe pt se ls mo tp ac sz dw st ty ed fr sp go nz tk en ch nw ps pg cf ct la gr cr ne nl oe ol fl tl : Nat → Nat} {tn kn N : Nat} {th : Int32} {gp fs : Nat → Int32}
theorem rx_dd (post : Int32 → SX → Prop) {c u : Nat} {x y : Int32} (hx : x = nI c) (hy : y = nI u) (I : (rq_L ln fm tt le li rk we op mk wd wn pc ph pa pe pt se ls mo tp ac sz dw st ty ed fr sp go tk en ch ps pg cf ct la gr cr ne nl oe ol fl tl tn N)) (hc : c < 32) (hu : u ≤ 12) (h : post (nI (rq_dd (dw (ty c)) (rq_nz (nz c)) (sp c) u)) (nI tn, rn_A ln, rn_A fm, rn_A tt, rn_A le, rn_A li, rn_A rk, rn_A we, rn_A op, rn_A ca, rn_A mk, rn_B wd, rn_B wn, rn_A pc, rn_A ph, rn_A pa, rn_A pe, rn_A pt, rn_A tp, rn_A ac, rn_A sz, rn_A dw, rn_A st, rn_A ty, rn_A ed, rn_B ps, rn_A fr, rn_A sp, rn_A go, rn_A (ru_p nz c (rq_nz (nz c))), rn_B pg, rn_B cf, rn_B ct, rn_A tk, rn_A en, rn_B ch, rn_A nw, rn_A tl)) : wpX_dawdled post (nI tn, rn_A ln, rn_A fm, rn_A tt, rn_A le, rn_A li, rn_A rk, rn_A we, rn_A op, rn_A ca, rn_A mk, rn_B wd, rn_B wn, rn_A pc, rn_A ph, rn_A pa, rn_A pe, rn_A pt, rn_A tp, rn_A ac, rn_A sz, rn_A dw, rn_A st, rn_A ty, rn_A ed, rn_B ps, rn_A fr, rn_A sp, rn_A go, rn_A nz, rn_B pg, rn_B cf, rn_B ct, rn_A tk, rn_A en, rn_B ch, rn_A nw, rn_A tl) x y := by
  subst hx hy
  have A := rI_c I c
  refine ⟨pk_in c 32 hc, pk_in c 32 hc, nm_r (rn_nz (by omega)) ⟨pk_in c 32 hc, by decide, pk_in c 32 hc, rn_iA (by omega) A.2.1 (by omega), ?_⟩⟩
  rw [rn_AA (by omega) (by omega), rn_rA (f := ru_p nz c (rq_nz (nz c))) (by omega), ru_s]
  unfold rq_dd at h
  refine br_c (fun k => br_t rfl ?_) (fun k => br_f (by decide) ?_)
  · rw [if_neg (fun w => w.1 k)] at h; exact h
  · refine pk_le u 0 (fun k2 => ?_) (fun k2 => ⟨pk_in c 32 hc, ?_⟩)
    · rw [if_neg (fun w => by have := w.2.1; omega)] at h; exact h
    · have e1 : nI u - 1 = ri_z ((u : Int) - 1) := by rw [ri_n, show (1 : Int32) = ri_z 1 from ri_n 1, ri_sub]
      have e2 : rn_A sp (nI c).toNatClampNeg - 2 = ri_z ((sp c : Int) - 2) := by rw [rn_rA (by omega), ri_n, show (2 : Int32) = ri_z 2 from ri_n 2, ri_sub]
      refine ek_f (ri_t e1 e2 (by omega) (by omega)) (fun k3 => ?_) (fun k3 => ?_)
      · rw [if_neg (fun w => by have := w.2.2; omega)] at h; exact h
      · rw [if_pos ⟨k, k2, by omega⟩] at h
        rw [show (1 : Int32) = nI 1 from rfl, pk_sub (by omega)]
        exact h
theorem ry_fit (post : Int32 → Prop) {t u : Nat} {x : Int32} (hx : x = nI u) (ht : t ≤ 2) (hu : u ≤ 12) (hs : ∀ k, k < t → rq_Sh (gp k) (fs k)) (h : post (rb_ (∀ k, k < t → rq_F u (gp k) (fs k)))) : wpY_fits post (nI kn, nI tn, nI t, rn_T ln, rn_A op, rn_A fm, rn_A tt, rn_A le, rn_A ln, rn_A li, rn_A rk, rn_A we, rn_A ca, rn_A mk, rn_A fa, rn_A tp, rn_A ac, rn_A sz, rn_A dw, rn_A st, rn_A ty, rn_A ed, rn_A la, rn_A fr, rn_A sp, rn_A go, rn_A nz, rn_A tk, rn_C ch, rn_A en, rn_A nw, rn_A gr, rn_A cr, rn_A ne, rn_A nl, rn_A oe, rn_A ol, rn_A fl, rn_A pc, rn_A ph, rn_A pa, rn_A se, rn_A ls, rn_A mo, rn_A tl, gp, fs) x := by
  subst hx
  have d1 := rn_D6 u (by omega)
  unfold wpY_fits
  refine ry_st _ (by omega) ?_
  refine loop_0 (fun n i (_ : Unit) => wY_fits_7 post (nI u) (nI (rd_D u)) (nI kn) (nI tn) (nI t) (rn_T ln) (rn_A op) (rn_A fm) (rn_A tt) (rn_A le) (rn_A ln) (rn_A li) (rn_A rk) (rn_A we) (rn_A ca) (rn_A mk) (rn_A fa) (rn_A tp) (rn_A ac) (rn_A sz) (rn_A dw) (rn_A st) (rn_A ty) (rn_A ed) (rn_A la) (rn_A fr) (rn_A sp) (rn_A go) (rn_A nz) (rn_A tk) (rn_C ch) (rn_A en) (rn_A nw) (rn_A gr) (rn_A cr) (rn_A ne) (rn_A nl) (rn_A oe) (rn_A ol) (rn_A fl) (rn_A pc) (rn_A ph) (rn_A pa) (rn_A se) (rn_A ls) (rn_A mo) (rn_A tl) gp fs n (nI i)) (fun i _ => ∀ k, k < i → rq_F u (gp k) (fs k)) t () (fun k hk => absurd hk (Nat.not_lt_zero k)) ?_ ?_
  · intro n _ e
    exact br_t (nI_le (Nat.le_refl _) (by omega)) (rb_p1 h e)
  · intro n i _ hi e ih
    obtain ⟨a, b, ea, eb, ha, hb⟩ := hs i hi
    have d2 := rn_D6 b hb
    have fe := rq_FE (u := u) ha hb
    rw [← ea, ← eb] at fe
    have i2 : vp_in (nI i) 2 := pk_in i 2 (by omega)
    have e1 : gp (nI i).toNatClampNeg = ri_z a := by rw [nI_clamp (by omega)]; exact ea
    have e2 : fs (nI i).toNatClampNeg = nI b := by rw [nI_clamp (by omega)]; exact eb
    have s48 : ∀ z : Nat, z = b - 2 → wY_fits_48 post (wY_fits_7 post (nI u) (nI (rd_D u)) (nI kn) (nI tn) (nI t) (rn_T ln) (rn_A op) (rn_A fm) (rn_A tt) (rn_A le) (rn_A ln) (rn_A li) (rn_A rk) (rn_A we) (rn_A ca) (rn_A mk) (rn_A fa) (rn_A tp) (rn_A ac) (rn_A sz) (rn_A dw) (rn_A st) (rn_A ty) (rn_A ed) (rn_A la) (rn_A fr) (rn_A sp) (rn_A go) (rn_A nz) (rn_A tk) (rn_C ch) (rn_A en) (rn_A nw) (rn_A gr) (rn_A cr) (rn_A ne) (rn_A nl) (rn_A oe) (rn_A ol) (rn_A fl) (rn_A pc) (rn_A ph) (rn_A pa) (rn_A se) (rn_A ls) (rn_A mo) (rn_A tl) gp fs n) (nI u) (nI (rd_D u)) (nI i) (nI (rd_D b)) (nI z) (nI kn) (nI tn) (nI t) (rn_T ln) (rn_A op) (rn_A fm) (rn_A tt) (rn_A le) (rn_A ln) (rn_A li) (rn_A rk) (rn_A we) (rn_A ca) (rn_A mk) (rn_A fa) (rn_A tp) (rn_A ac) (rn_A sz) (rn_A dw) (rn_A st) (rn_A ty) (rn_A ed) (rn_A la) (rn_A fr) (rn_A sp) (rn_A go) (rn_A nz) (rn_A tk) (rn_C ch) (rn_A en) (rn_A nw) (rn_A gr) (rn_A cr) (rn_A ne) (rn_A nl) (rn_A oe) (rn_A ol) (rn_A fl) (rn_A pc) (rn_A ph) (rn_A pa) (rn_A se) (rn_A ls) (rn_A mo) (rn_A tl) gp fs := by
      intro z hz
      unfold wY_fits_48
      rw [e1]
      refine ⟨i2, ek_f (ri_t (a := a + (z : Int)) (by rw [ri_n, ri_add]) (ri_n u) (by omega) (by omega)) (fun k1 => rb_p0 h (fun w => by have := (fe.mp (w i hi)).1; omega)) (fun k1 => ⟨i2, ?_⟩)⟩
      refine ek_f (ri_l (a := (u : Int) + rd_D u) (b := a + rd_D b) (by rw [ri_n, ri_n, ri_add]) (by rw [ri_n, ri_add]) (by omega) (by omega)) (fun k2 => nm_r (nI_1 i) (ih () (lt_s e (fe.mpr ⟨by omega, k2⟩)))) (fun k2 => rb_p0 h (fun w => k2 (fe.mp (w i hi)).2))
    refine br_f (nI_ge hi (by omega)) ⟨i2, ?_⟩
    rw [e2]
    refine ry_st _ hb ⟨i2, pk_le b 2 (fun k => s48 0 (by omega)) (fun k => ⟨i2, ?_⟩)⟩
    rw [show (2 : Int32) = nI 2 from rfl, pk_sub (by omega)]
    exact s48 (b - 2) rfl
/-- the bounds, by the things -/
theorem rq_FT (I : (rq_I ln fm tt le li rk we op mk wd wn pc ph pa pe pt se ls mo tp ac sz dw st ty ed fr sp go tk en ch ps pg cf ct la gr cr ne nl oe ol fl tl tn N)) {f c x : Nat} (hc : c < 32) (h2 : st c = 2) (hf : (f = 0 ∧ pg c = 0) ∨ (0 < f ∧ 0 < pg c ∧ rd_q (pg c) = f - 1)) : (rq_Ld le ty sz ed fr sp ps (pg c) c (rq_F x) ∧ rq_En le ed fr go f c (rq_F x)) ↔ ((rq_sE le ed fr go pg) c x ∧ (rq_sL le ed fr sp ps pg (fun x => sz (ty x))) c x) := by
  have A := rI_c I.1 c
  have B := rI_e I.1 (ed c)
  have C := rI_e I.1 (f - 1)
  have F := rI_fre I hc h2
  have en : rq_En le ed fr go f c (rq_F x) ↔ (rq_sE le ed fr go pg) c x := by
    have e1 : rq_F x (ri_z ((le (ed c) : Int) - fr c)) 0 ↔ rd_ok (le (ed c) - fr c) 0 x := by
      rw [show ((le (ed c) : Int) - fr c) = ((le (ed c) - fr c : Nat) : Int) by omega]
      exact rq_FN (b := 0) (by omega) (by omega)
    have e2 : rq_F x (ri_z ((le (ed c) : Int) - fr c + le (f - 1))) 0 ↔ rd_ok (le (ed c) + le (f - 1) - fr c) 0 x := by
      rw [show ((le (ed c) : Int) - fr c + le (f - 1)) = ((le (ed c) + le (f - 1) - fr c : Nat) : Int) by omega]
      exact rq_FN (b := 0) (by omega) (by omega)
    rcases hf with ⟨z1, z2⟩ | ⟨z1, z2, z3⟩
    · exact ⟨fun w => ⟨fun _ y => e1.mp (w.1 z1 y), fun y => by omega⟩, fun w => ⟨fun _ y => e1.mpr (w.1 z2 y), fun y => by omega⟩⟩
    · constructor
      · intro w
        refine ⟨fun y => by omega, fun _ y => ?_⟩
        rw [z3] at y ⊢
        exact e2.mp (w.2 z1 y)
      · intro w
        refine ⟨fun y => by omega, fun _ y => ?_⟩
        have := w.2 z2 (by rw [z3]; exact y)
        rw [z3] at this
        exact e2.mpr this
  have ld : rq_Ld le ty sz ed fr sp ps (pg c) c (rq_F x) ↔ (rq_sL le ed fr sp ps pg (fun x => sz (ty x))) c x := by
    rcases Nat.eq_zero_or_pos (rq_le fr ps (pg c) c) with z | z
    · exact ⟨fun _ => rq_sLn z, fun _ a ha => by omega⟩
    · obtain ⟨a, ha⟩ : ∃ a, rq_le fr ps (pg c) c = a + 1 := ⟨rq_le fr ps (pg c) c - 1, by omega⟩
      obtain ⟨a1, a2, a3⟩ := rq_gL I hc h2 ha
      have D := rI_c I.1 a
      have one : ∀ b, rq_le fr ps (pg c) c = b + 1 → b = a := fun b hb => by omega
      rcases Nat.decEq (ed a) (ed c) with q | q
      · obtain ⟨e1, e2⟩ := a3 q
        have e3 : rq_F x (ri_z ((fr a : Int) - sz (ty a) - 1 - fr c + le (ed c))) (nI (sp a)) ↔ (rq_sL le ed fr sp ps pg (fun x => sz (ty x))) c x := by
          rw [e1]
          exact (rq_FN (by omega) (by omega)).trans (e2 x)
        constructor
        · intro w; exact e3.mp ((w a ha).2 q)
        · intro w b hb
          rw [one b hb]
          exact ⟨fun y => absurd y q, fun _ => e3.mpr w⟩
      · obtain ⟨e1, e2⟩ := a2 q
        have e3 : rq_F x (ri_z ((fr a : Int) - sz (ty a) - 1 - fr c)) (nI (sp a)) ↔ (rq_sL le ed fr sp ps pg (fun x => sz (ty x))) c x := by
          rw [e1]
          exact (rq_FN (by omega) (by omega)).trans (e2 x)
        constructor
        · intro w; exact e3.mp ((w a ha).1 q)
        · intro w b hb
          rw [one b hb]
          exact ⟨fun _ => e3.mpr w, fun y => absurd q y⟩
  rw [en, ld]
  exact ⟨fun w => ⟨w.2, w.1⟩, fun w => ⟨w.2, w.1⟩⟩
theorem ry_c157 (post : SY → Prop) {c u : Nat} (I : (rq_L ln fm tt le li rk we op mk wd wn pc ph pa pe pt se ls mo tp ac sz dw st ty ed fr sp go tk en ch ps pg cf ct la gr cr ne nl oe ol fl tl tn N)) (hc : c < 32) (hu : u ≤ 12) (h : post (nI kn, nI tn, th, rn_T ln, rn_A op, rn_A fm, rn_A tt, rn_A le, rn_A ln, rn_A li, rn_A rk, rn_A we, rn_A ca, rn_A mk, rn_A fa, rn_A tp, rn_A ac, rn_A sz, rn_A dw, rn_A st, rn_A ty, rn_A ed, rn_A la, rn_A fr, rn_A sp, rn_A go, rn_A (ru_p nz c (rq_nz (nz c))), rn_A tk, rn_C ch, rn_A en, rn_A (ru_p nw c (rq_dd (dw (ty c)) (rq_nz (nz c)) (sp c) u)), rn_A gr, rn_A cr, rn_A ne, rn_A nl, rn_A oe, rn_A ol, rn_A fl, rn_A pc, rn_A ph, rn_A pa, rn_A se, rn_A ls, rn_A mo, rn_A tl, gp, fs)) : wY_choose_157 post (nI c) (nI (ty c)) (nI u) (nI kn) (nI tn) th (rn_T ln) (rn_A op) (rn_A fm) (rn_A tt) (rn_A le) (rn_A ln) (rn_A li) (rn_A rk) (rn_A we) (rn_A ca) (rn_A mk) (rn_A fa) (rn_A tp) (rn_A ac) (rn_A sz) (rn_A dw) (rn_A st) (rn_A ty) (rn_A ed) (rn_A la) (rn_A fr) (rn_A sp) (rn_A go) (rn_A nz) (rn_A tk) (rn_C ch) (rn_A en) (rn_A nw) (rn_A gr) (rn_A cr) (rn_A ne) (rn_A nl) (rn_A oe) (rn_A ol) (rn_A fl) (rn_A pc) (rn_A ph) (rn_A pa) (rn_A se) (rn_A ls) (rn_A mo) (rn_A tl) gp fs := by
  have A := rI_c I c
  unfold rq_dd at h
  refine ⟨pk_in c 32 hc, pk_in c 32 hc, nm_r (rn_nz (by omega)) ?_⟩
  refine pk_le u 0 (fun k2 => ⟨pk_in c 32 hc, nm_r (rn_uA (by omega)) ?_⟩) (fun k2 => ⟨pk_in c 32 hc, ?_⟩)
  · rw [if_neg (fun w => by have := w.2.1; omega)] at h; exact h
  · have e1 : nI u - 1 = ri_z ((u : Int) - 1) := by rw [ri_n, show (1 : Int32) = ri_z 1 from ri_n 1, ri_sub]
    have e2 : rn_A sp (nI c).toNatClampNeg - 2 = ri_z ((sp c : Int) - 2) := by rw [rn_rA (by omega), ri_n, show (2 : Int32) = ri_z 2 from ri_n 2, ri_sub]
    refine ek_f (ri_t e1 e2 (by omega) (by omega)) (fun k3 => ⟨pk_in c 32 hc, nm_r (rn_uA (by omega)) ?_⟩) (fun k3 => ⟨pk_in c 32 hc, by decide, vp_in_nI (by omega) (by omega), ?_⟩)
    · rw [if_neg (fun w => by have := w.2.2; omega)] at h; exact h
    · rw [rn_rA (f := dw) (by omega), rn_rA (f := ru_p nz c (rq_nz (nz c))) (by omega), ru_s]
      refine br_c (fun k => ⟨pk_in c 32 hc, nm_r (rn_uA (by omega)) ?_⟩) (fun k => nm_r (e' := nI (u - 1)) ?_ ⟨pk_in c 32 hc, nm_r (rn_uA (by omega)) ?_⟩)
      · rw [if_neg (fun w => w.1 k)] at h; exact h
      · obtain ⟨v, rfl⟩ : ∃ v, u = v + 1 := ⟨u - 1, by omega⟩
        exact pk_m1 v
      · rw [if_pos ⟨k, k2, by omega⟩] at h; exact h
theorem ry_c137 (post : SY → Prop) {c t s v : Nat} {P : Nat → Prop} (I : (rq_L ln fm tt le li rk we op mk wd wn pc ph pa pe pt se ls mo tp ac sz dw st ty ed fr sp go tk en ch ps pg cf ct la gr cr ne nl oe ol fl tl tn N)) (hc : c < 32) (ht : t ≤ 2) (hs : ∀ k, k < t → rq_Sh (gp k) (fs k)) (hP : ∀ x, (∀ k, k < t → rq_F x (gp k) (fs k)) ↔ P x) (hs12 : s ≤ 12) (hu : rd_gr P s v) (h : post (nI kn, nI tn, nI t, rn_T ln, rn_A op, rn_A fm, rn_A tt, rn_A le, rn_A ln, rn_A li, rn_A rk, rn_A we, rn_A ca, rn_A mk, rn_A fa, rn_A tp, rn_A ac, rn_A sz, rn_A dw, rn_A st, rn_A ty, rn_A ed, rn_A la, rn_A fr, rn_A sp, rn_A go, rn_A (ru_p nz c (rq_nz (nz c))), rn_A tk, rn_C ch, rn_A en, rn_A (ru_p nw c (rq_dd (dw (ty c)) (rq_nz (nz c)) (sp c) v)), rn_A gr, rn_A cr, rn_A ne, rn_A nl, rn_A oe, rn_A ol, rn_A fl, rn_A pc, rn_A ph, rn_A pa, rn_A se, rn_A ls, rn_A mo, rn_A tl, gp, fs)) : ∀ x n, x < n → x ≤ s → v ≤ x → wY_choose_137 post (nI c) (nI (ty c)) (nI kn) (nI tn) (nI t) (rn_T ln) (rn_A op) (rn_A fm) (rn_A tt) (rn_A le) (rn_A ln) (rn_A li) (rn_A rk) (rn_A we) (rn_A ca) (rn_A mk) (rn_A fa) (rn_A tp) (rn_A ac) (rn_A sz) (rn_A dw) (rn_A st) (rn_A ty) (rn_A ed) (rn_A la) (rn_A fr) (rn_A sp) (rn_A go) (rn_A nz) (rn_A tk) (rn_C ch) (rn_A en) (rn_A nw) (rn_A gr) (rn_A cr) (rn_A ne) (rn_A nl) (rn_A oe) (rn_A ol) (rn_A fl) (rn_A pc) (rn_A ph) (rn_A pa) (rn_A se) (rn_A ls) (rn_A mo) (rn_A tl) gp fs n (nI x) := by
  intro x
  induction x with
  | zero =>
    intro n hn _ hux
    obtain ⟨n', rfl⟩ : ∃ n', n = n' + 1 := ⟨n - 1, by omega⟩
    have : v = 0 := by omega
    subst this
    exact br_t (by decide) (ry_c157 post I hc (by omega) h)
  | succ x ih =>
    intro n hn hxs hux
    obtain ⟨n', rfl⟩ : ∃ n', n = n' + 1 := ⟨n - 1, by omega⟩
    refine br_f (nI_nle (by omega) (by omega)) (ry_fit _ rfl ht (by omega) hs ?_)
    rw [rb_e (hP (x + 1))]
    refine rb_b (fun k => nm_r (pk_m1 x) (ih n' (by omega) (by omega) ?_)) (fun k => ?_)
    · rcases Nat.decEq v (x + 1) with q | q
      · omega
      · subst q
        rcases hu.2.1 with y | y
        · omega
        · exact absurd y k
    · have e : v = x + 1 := by
        rcases Nat.decEq v (x + 1) with q | q
        · exact absurd k (hu.2.2 (x + 1) (by omega) hxs)
        · exact q
      rw [← e]
      exact ry_c157 post I hc (by omega) h
theorem ry_ch (post : SY → Prop) {c v : Nat} {x : Int32} (hx : x = nI c) (I : (rq_I ln fm tt le li rk we op mk wd wn pc ph pa pe pt se ls mo tp ac sz dw st ty ed fr sp go tk en ch ps pg cf ct la gr cr ne nl oe ol fl tl tn N)) (hc : c < 32) (h2 : st c = 2) (hv : rd_gr (fun y => (rq_sE le ed fr go pg) c y ∧ (rq_sL le ed fr sp ps pg (fun x => sz (ty x))) c y) ((rq_wish li tp ac ty ed sp) c) v) (H : ∀ gp fs th, post (nI kn, nI tn, th, rn_T ln, rn_A op, rn_A fm, rn_A tt, rn_A le, rn_A ln, rn_A li, rn_A rk, rn_A we, rn_A ca, rn_A mk, rn_A fa, rn_A tp, rn_A ac, rn_A sz, rn_A dw, rn_A st, rn_A ty, rn_A ed, rn_A la, rn_A fr, rn_A sp, rn_A go, rn_A (ru_p nz c (rq_nz (nz c))), rn_A tk, rn_C ch, rn_A en, rn_A (ru_p nw c (rq_dd (dw (ty c)) (rq_nz (nz c)) (sp c) v)), rn_A gr, rn_A cr, rn_A ne, rn_A nl, rn_A oe, rn_A ol, rn_A fl, rn_A pc, rn_A ph, rn_A pa, rn_A se, rn_A ls, rn_A mo, rn_A tl, gp, fs)) : wpY_choose post (nI kn, nI tn, th, rn_T ln, rn_A op, rn_A fm, rn_A tt, rn_A le, rn_A ln, rn_A li, rn_A rk, rn_A we, rn_A ca, rn_A mk, rn_A fa, rn_A tp, rn_A ac, rn_A sz, rn_A dw, rn_A st, rn_A ty, rn_A ed, rn_A la, rn_A fr, rn_A sp, rn_A go, rn_A nz, rn_A tk, rn_C ch, rn_A en, rn_A nw, rn_A gr, rn_A cr, rn_A ne, rn_A nl, rn_A oe, rn_A ol, rn_A fl, rn_A pc, rn_A ph, rn_A pa, rn_A se, rn_A ls, rn_A mo, rn_A tl, gp, fs) x := by
  subst hx
  have A := rI_c I.1 c
  have B := rI_e I.1 (ed c)
  have T := rI_y I.1 c
  have G := rI_gd I.1 c hc
  have w12 : (rq_wish li tp ac ty ed sp) c ≤ 12 := rq_wishU T.2.1 A.2.2.2.2.2.1
  have s35 : ∀ f, (f = 0 ∧ pg c = 0) ∨ (0 < f ∧ f ≤ 16 ∧ 0 < pg c ∧ f - 1 = ne c) → wY_choose_35 post (nI c) (nI (ed c)) (nI (ty c)) (rn_y f) (nI c) (nI kn) (nI tn) th (rn_T ln) (rn_A op) (rn_A fm) (rn_A tt) (rn_A le) (rn_A ln) (rn_A li) (rn_A rk) (rn_A we) (rn_A ca) (rn_A mk) (rn_A fa) (rn_A tp) (rn_A ac) (rn_A sz) (rn_A dw) (rn_A st) (rn_A ty) (rn_A ed) (rn_A la) (rn_A fr) (rn_A sp) (rn_A go) (rn_A nz) (rn_A tk) (rn_C ch) (rn_A en) (rn_A nw) (rn_A gr) (rn_A cr) (rn_A ne) (rn_A nl) (rn_A oe) (rn_A ol) (rn_A fl) (rn_A pc) (rn_A ph) (rn_A pa) (rn_A se) (rn_A ls) (rn_A mo) (rn_A tl) gp fs := by
    intro f hf
    have es : (if f = 0 then 0 else 2 * (f - 1) + nl c + 1) = pg c := by
      rcases hf with ⟨z1, z2⟩ | ⟨z1, z2, z3, z4⟩
      · rw [if_pos z1]; omega
      · rw [if_neg (by omega)]; omega
    have hf2 : (f = 0 ∧ pg c = 0) ∨ (0 < f ∧ 0 < pg c ∧ rd_q (pg c) = f - 1) := by
      rcases hf with z | ⟨z1, z2, z3, z4⟩
      · exact Or.inl z
      · right
        refine ⟨z1, z3, ?_⟩
        have e : pg c = 2 * ne c + nl c + 1 := by omega
        rw [e, rd_qE (by omega)]; omega
    unfold wY_choose_35
    refine ⟨pk_in c 32 hc, ry_fd _ (f := f) (l := nl c) rfl rfl (rn_rA (by omega)) I.1 hc h2 (by omega) (fun z => by omega) (fun z => ?_) (fun gp fs t ht hTh => ⟨vp_in_nI (by omega) (by omega), vp_in_nI (by omega) (by omega), ?_⟩)⟩
    · rcases hf2 with y | y
      · omega
      · rw [← y.2.2]; exact rI_pq I hc y.2.1
    · rw [es] at hTh
      have hS := (hTh rq_Sh).mpr ⟨rq_LdS I.1 hc h2 (rI_pg I.1 c hc) (rI_pq I hc), rq_EnS I.1⟩
      have loop : ∀ z, z = (rq_wish li tp ac ty ed sp) c → ∃ n, wY_choose_137 post (nI c) (nI (ty c)) (nI kn) (nI tn) (nI t) (rn_T ln) (rn_A op) (rn_A fm) (rn_A tt) (rn_A le) (rn_A ln) (rn_A li) (rn_A rk) (rn_A we) (rn_A ca) (rn_A mk) (rn_A fa) (rn_A tp) (rn_A ac) (rn_A sz) (rn_A dw) (rn_A st) (rn_A ty) (rn_A ed) (rn_A la) (rn_A fr) (rn_A sp) (rn_A go) (rn_A nz) (rn_A tk) (rn_C ch) (rn_A en) (rn_A nw) (rn_A gr) (rn_A cr) (rn_A ne) (rn_A nl) (rn_A oe) (rn_A ol) (rn_A fl) (rn_A pc) (rn_A ph) (rn_A pa) (rn_A se) (rn_A ls) (rn_A mo) (rn_A tl) gp fs n (nI z) := by
        intro z hz
        rw [hz]
        exact ⟨(rq_wish li tp ac ty ed sp) c + 1, ry_c137 post I.1 hc ht hS (fun x => (hTh (rq_F x)).trans (rq_FT I hc h2 hf2)) w12 hv (H gp fs (nI t)) ((rq_wish li tp ac ty ed sp) c) _ (by omega) (by omega) hv.1⟩
      have s99 : ∀ z : Nat, z = max (min (tp (ty c)) (li (ed c))) (sp c - 2) → wY_choose_99 post (nI c) (nI (ty c)) (nI z) (nI kn) (nI tn) (nI t) (rn_T ln) (rn_A op) (rn_A fm) (rn_A tt) (rn_A le) (rn_A ln) (rn_A li) (rn_A rk) (rn_A we) (rn_A ca) (rn_A mk) (rn_A fa) (rn_A tp) (rn_A ac) (rn_A sz) (rn_A dw) (rn_A st) (rn_A ty) (rn_A ed) (rn_A la) (rn_A fr) (rn_A sp) (rn_A go) (rn_A nz) (rn_A tk) (rn_C ch) (rn_A en) (rn_A nw) (rn_A gr) (rn_A cr) (rn_A ne) (rn_A nl) (rn_A oe) (rn_A ol) (rn_A fl) (rn_A pc) (rn_A ph) (rn_A pa) (rn_A se) (rn_A ls) (rn_A mo) (rn_A tl) gp fs := by
        intro z hz
        refine ⟨pk_in c 32 hc, vp_in_nI (by omega) (by omega), ?_⟩
        rw [rn_rA (by omega), rn_rA (by omega), nI_add]
        refine pk_le z (sp c + ac (ty c)) (fun k => loop z (by unfold rq_wish; omega)) (fun k => ⟨pk_in c 32 hc, vp_in_nI (by omega) (by omega), nm_e (loop _ (by unfold rq_wish; omega))⟩)
      have s74 : ∀ z : Nat, z = min (tp (ty c)) (li (ed c)) → wY_choose_74 post (nI c) (nI (ty c)) (nI z) (nI kn) (nI tn) (nI t) (rn_T ln) (rn_A op) (rn_A fm) (rn_A tt) (rn_A le) (rn_A ln) (rn_A li) (rn_A rk) (rn_A we) (rn_A ca) (rn_A mk) (rn_A fa) (rn_A tp) (rn_A ac) (rn_A sz) (rn_A dw) (rn_A st) (rn_A ty) (rn_A ed) (rn_A la) (rn_A fr) (rn_A sp) (rn_A go) (rn_A nz) (rn_A tk) (rn_C ch) (rn_A en) (rn_A nw) (rn_A gr) (rn_A cr) (rn_A ne) (rn_A nl) (rn_A oe) (rn_A ol) (rn_A fl) (rn_A pc) (rn_A ph) (rn_A pa) (rn_A se) (rn_A ls) (rn_A mo) (rn_A tl) gp fs := by
        intro z hz
        have e1 : rn_A sp (nI c).toNatClampNeg - 2 = ri_z ((sp c : Int) - 2) := by rw [rn_rA (by omega), ri_n, show (2 : Int32) = ri_z 2 from ri_n 2, ri_sub]
        refine ⟨pk_in c 32 hc, ek_f (ri_l e1 (ri_n z) (by omega) (by omega)) (fun k => s99 z (by omega)) (fun k => ⟨pk_in c 32 hc, nm_r (e' := nI (sp c - 2)) (by rw [rn_rA (by omega), show (2 : Int32) = nI 2 from rfl, pk_sub (by omega)]) (s99 (sp c - 2) (by omega))⟩)⟩
      rw [rn_rA (i := ed c) (by omega), rn_rA (i := ty c) (by omega)]
      exact pk_le (li (ed c)) (tp (ty c)) (fun k => ⟨vp_in_nI (by omega) (by omega), s74 _ (by omega)⟩) (fun k => ⟨vp_in_nI (by omega) (by omega), s74 _ (by omega)⟩)
  refine ⟨pk_in c 32 hc, nm_r (rn_rA (by omega)) ⟨pk_in c 32 hc, nm_r (rn_rA (by omega)) ⟨pk_in c 32 hc, ?_⟩⟩⟩
  refine ek_f (rn_e (rn_rA (by omega)) (b := 0) rfl (by omega) (by omega)) (fun k => s35 0 (Or.inl ⟨rfl, by omega⟩)) (fun k => ⟨pk_in c 32 hc, ?_⟩)
  rw [rn_rA (by omega)]
  exact s35 (ne c + 1) (Or.inr ⟨by omega, by omega, by omega, by omega⟩)
/-- the new speed of a car -/
def rq_ns (le li tp ac ty sz ed fr sp go ps pg : Nat → Nat) (c x : Nat) : Prop := ∃ v, rd_gr (fun y => (rq_sE le ed fr go pg) c y ∧ (rq_sL le ed fr sp ps pg (fun x => sz (ty x))) c y) ((rq_wish li tp ac ty ed sp) c) v ∧ (x = v ∨ (x + 1 = v ∧ sp c ≤ x + 2))
theorem rl_ch (I : (rq_I ln fm tt le li rk we op mk wd wn pc ph pa pe pt se ls mo tp ac sz dw st ty ed fr sp go tk en ch ps pg cf ct la gr cr ne nl oe ol fl tl tn N)) : ∀ d i, i + d = 32 → ∀ nz nw : Nat → Nat, ∃ nz' nw' : Nat → Nat, (∀ c, i ≤ c → c < 32 → st c = 2 → rq_ns le li tp ac ty sz ed fr sp go ps pg c (nw' c)) ∧ (∀ c, c < i → nw' c = nw c) ∧
    (∀ post, (∃ n44, wX_moveCars_44 post n44 0 (nI tn) (rn_A ln) (rn_A fm) (rn_A tt) (rn_A le) (rn_A li) (rn_A rk) (rn_A we) (rn_A op) (rn_A ca) (rn_A mk) (rn_B wd) (rn_B wn) (rn_A pc) (rn_A ph) (rn_A pa) (rn_A pe) (rn_A pt) (rn_A tp) (rn_A ac) (rn_A sz) (rn_A dw) (rn_A st) (rn_A ty) (rn_A ed) (rn_B ps) (rn_A fr) (rn_A sp) (rn_A go) (rn_A nz') (rn_B pg) (rn_B cf) (rn_B ct) (rn_A tk) (rn_A en) (rn_B ch) (rn_A nw') (rn_A tl)) → wX_moveCars_2 post (d + 1) (nI i) (nI tn) (rn_A ln) (rn_A fm) (rn_A tt) (rn_A le) (rn_A li) (rn_A rk) (rn_A we) (rn_A op) (rn_A ca) (rn_A mk) (rn_B wd) (rn_B wn) (rn_A pc) (rn_A ph) (rn_A pa) (rn_A pe) (rn_A pt) (rn_A tp) (rn_A ac) (rn_A sz) (rn_A dw) (rn_A st) (rn_A ty) (rn_A ed) (rn_B ps) (rn_A fr) (rn_A sp) (rn_A go) (rn_A nz) (rn_B pg) (rn_B cf) (rn_B ct) (rn_A tk) (rn_A en) (rn_B ch) (rn_A nw) (rn_A tl)) ∧
    (∀ post kn fa gp fs th, (∀ gp fs th, ∃ n126, wY_stepOn_126 post n126 0 (nI kn) (nI tn) th (rn_T ln) (rn_A op) (rn_A fm) (rn_A tt) (rn_A le) (rn_A ln) (rn_A li) (rn_A rk) (rn_A we) (rn_A ca) (rn_A mk) (rn_A fa) (rn_A tp) (rn_A ac) (rn_A sz) (rn_A dw) (rn_A st) (rn_A ty) (rn_A ed) (rn_A la) (rn_A fr) (rn_A sp) (rn_A go) (rn_A nz') (rn_A tk) (rn_C ch) (rn_A en) (rn_A nw') (rn_A gr) (rn_A cr) (rn_A ne) (rn_A nl) (rn_A oe) (rn_A ol) (rn_A fl) (rn_A pc) (rn_A ph) (rn_A pa) (rn_A se) (rn_A ls) (rn_A mo) (rn_A tl) gp fs) → wY_stepOn_97 post (d + 1) (nI i) (nI kn) (nI tn) th (rn_T ln) (rn_A op) (rn_A fm) (rn_A tt) (rn_A le) (rn_A ln) (rn_A li) (rn_A rk) (rn_A we) (rn_A ca) (rn_A mk) (rn_A fa) (rn_A tp) (rn_A ac) (rn_A sz) (rn_A dw) (rn_A st) (rn_A ty) (rn_A ed) (rn_A la) (rn_A fr) (rn_A sp) (rn_A go) (rn_A nz) (rn_A tk) (rn_C ch) (rn_A en) (rn_A nw) (rn_A gr) (rn_A cr) (rn_A ne) (rn_A nl) (rn_A oe) (rn_A ol) (rn_A fl) (rn_A pc) (rn_A ph) (rn_A pa) (rn_A se) (rn_A ls) (rn_A mo) (rn_A tl) gp fs) := by
  intro d
  induction d with
  | zero =>
    intro i hi nz nw
    have e : i = 32 := by omega
    subst e
    exact ⟨nz, nw, fun c a b => by omega, fun c _ => rfl, fun post h => br_t (by decide) h, fun post kn fa gp fs th h => br_t (by decide) (h gp fs th)⟩
  | succ d ih =>
    intro i hi nz nw
    have i32 : i < 32 := by omega
    have A := rI_c I.1 i
    have T := rI_y I.1 i
    rcases Nat.decEq (st i) 2 with q | q
    · obtain ⟨nz', nw', h1, h2, hx, hy⟩ := ih (i + 1) (by omega) nz nw
      refine ⟨nz', nw', fun c a b k => ?_, fun c hc => h2 c (by omega), fun post h => br_f (nI_ge (b := 32) i32 (by decide)) ⟨pk_in i 32 i32, ?_⟩, fun post kn fa gp fs th h => br_f (nI_ge (b := 32) i32 (by decide)) ⟨pk_in i 32 i32, ?_⟩⟩
      · rcases Nat.decEq c i with z | z
        · exact h1 c (by omega) b k
        · subst z; exact absurd k q
      · exact ek_f (rn_e (rn_rA (by omega)) (b := 2) rfl (by omega) (by omega)) (fun k => absurd k q) (fun _ => nm_r (nI_1 i) (hx post h))
      · exact ek_f (rn_e (rn_rA (by omega)) (b := 2) rfl (by omega) (by omega)) (fun k => absurd k q) (fun _ => nm_r (nI_1 i) (hy post kn fa gp fs th h))
    · obtain ⟨v, hv⟩ := rd_grX (fun y => (rq_sE le ed fr go pg) i y ∧ (rq_sL le ed fr sp ps pg (fun x => sz (ty x))) i y) ((rq_wish li tp ac ty ed sp) i)
      have w12 : (rq_wish li tp ac ty ed sp) i ≤ 12 := rq_wishU T.2.1 A.2.2.2.2.2.1
      have v12 := hv.1
      obtain ⟨nz', nw', h1, h2, hx, hy⟩ := ih (i + 1) (by omega) (ru_p nz i (rq_nz (nz i))) (ru_p nw i (rq_dd (dw (ty i)) (rq_nz (nz i)) (sp i) v))
      refine ⟨nz', nw', fun c a b k => ?_, fun c hc => by rw [h2 c (by omega), ru_n (by omega)], fun post h => br_f (nI_ge (b := 32) i32 (by decide)) ⟨pk_in i 32 i32, ?_⟩, fun post kn fa gp fs th h => br_f (nI_ge (b := 32) i32 (by decide)) ⟨pk_in i 32 i32, ?_⟩⟩
      · rcases Nat.decEq c i with z | z
        · exact h1 c (by omega) b k
        · subst z
          rw [h2 c (by omega), ru_s]
          exact ⟨v, hv, rq_ddI _ _ _ _⟩
      · refine ek_f (rn_e (rn_rA (by omega)) (b := 2) rfl (by omega) (by omega)) (fun _ => rx_gs _ rfl I i32 q (fun u hu => ?_)) (fun k => absurd q k)
        rw [rd_grU hu hv]
        exact rx_dd _ rfl rfl I.1 i32 (by omega) ⟨pk_in i 32 i32, nm_r (rn_uA (by omega)) (nm_r (nI_1 i) (hx post h))⟩
      · refine ek_f (rn_e (rn_rA (by omega)) (b := 2) rfl (by omega) (by omega)) (fun _ => ry_ch _ rfl I i32 q hv (fun gp fs th => nm_r (nI_1 i) (hy post kn fa gp fs th h))) (fun k => absurd q k)
end
end
section
/-! MOVES: car after car -/
theorem rn_uk {f : Nat → Nat} {k x : Nat} : upd (rn_A f) k (nI x) = rn_A (ru_p f k x) := by
  funext j
  unfold upd rn_A ru_p
  by_cases z : j = k
  · rw [if_pos z, if_pos z]
  · rw [if_neg z, if_neg z]
theorem rn_vf : vp_nar .boolean 0 = 0 := rfl
section
variable {ln fm tt le li rk we op ca mk wd wn fa pc ph pa pe pt se ls mo tp ac sz dw st ty ed fr sp go nz tk en ch nw ps pg cf ct la gr cr ne nl oe ol fl tl : Nat → Nat} {tn kn N : Nat} {th : Int32} {gp fs : Nat → Int32}
theorem rx_to (post : SX → Prop) {c : Nat} {x : Int32} (hx : x = nI c) (hc : c < 32) (h : post (nI tn, rn_A ln, rn_A fm, rn_A tt, rn_A le, rn_A li, rn_A rk, rn_A we, rn_A op, rn_A ca, rn_A mk, rn_B wd, rn_B wn, rn_A pc, rn_A ph, rn_A pa, rn_A pe, rn_A pt, rn_A tp, rn_A ac, rn_A sz, rn_A dw, rn_A (ru_p st c 0), rn_A ty, rn_A ed, rn_B (ru_p ps c 0), rn_A fr, rn_A sp, rn_A go, rn_A nz, rn_B (ru_p pg c 0), rn_B (ru_p cf c 0), rn_B (ru_p ct c 0), rn_A tk, rn_A en, rn_B ch, rn_A nw, rn_A tl)) : wpX_takeOff post (nI tn, rn_A ln, rn_A fm, rn_A tt, rn_A le, rn_A li, rn_A rk, rn_A we, rn_A op, rn_A ca, rn_A mk, rn_B wd, rn_B wn, rn_A pc, rn_A ph, rn_A pa, rn_A pe, rn_A pt, rn_A tp, rn_A ac, rn_A sz, rn_A dw, rn_A st, rn_A ty, rn_A ed, rn_B ps, rn_A fr, rn_A sp, rn_A go, rn_A nz, rn_B pg, rn_B cf, rn_B ct, rn_A tk, rn_A en, rn_B ch, rn_A nw, rn_A tl) x := by
  subst hx
  exact ⟨pk_in c 32 hc, nm_r (rn_uA (x := 0) (by omega)) ⟨pk_in c 32 hc, nm_r (rn_uB (x := 0) (by omega)) ⟨pk_in c 32 hc, nm_r (rn_uB (x := 0) (by omega)) ⟨pk_in c 32 hc, nm_r (rn_uB (x := 0) (by omega)) ⟨pk_in c 32 hc, nm_r (rn_uB (x := 0) (by omega)) h⟩⟩⟩⟩⟩
theorem rl_mv1 {c : Nat} (I : (rq_L ln fm tt le li rk we op mk wd wn pc ph pa pe pt se ls mo tp ac sz dw st ty ed fr sp go tk en ch ps pg cf ct la gr cr ne nl oe ol fl tl tn N)) (hc : c < 32) (h2 : st c = 2) (hu : nw c ≤ 12) (hs : sp c ≤ nw c + 2) (hf : fr c ≤ le (ed c)) (k0 : pg c = 0 → go c ≠ ed c → fr c + nw c ≤ le (ed c)) (k1 : 0 < pg c → go c ≠ ed c) :
    ∃ ca' st' ed' fr' sp' ps' pg' cf' ct' la' gr' cr' oe' ol' fl' tl' : Nat → Nat, (rq_L ln fm tt le li rk we op mk wd wn pc ph pa pe pt se ls mo tp ac sz dw st' ty ed' fr' sp' go tk en ch ps' pg' cf' ct' la' gr' cr' ne nl oe' ol' fl' tl' tn N) ∧
    rd_M1 le ps pg fr go nw ps' pg' fr' sp' c ∧ (∀ d, d ≠ c → ps' d = ps d ∧ pg' d = pg d ∧ fr' d = fr d ∧ sp' d = sp d) ∧
    (∀ post, post (nI tn, rn_A ln, rn_A fm, rn_A tt, rn_A le, rn_A li, rn_A rk, rn_A we, rn_A op, rn_A ca', rn_A mk, rn_B wd, rn_B wn, rn_A pc, rn_A ph, rn_A pa, rn_A pe, rn_A pt, rn_A tp, rn_A ac, rn_A sz, rn_A dw, rn_A st', rn_A ty, rn_A ed', rn_B ps', rn_A fr', rn_A sp', rn_A go, rn_A nz, rn_B pg', rn_B cf', rn_B ct', rn_A tk, rn_A en, rn_B ch, rn_A nw, rn_A tl') → wpX_moveOn post (nI tn, rn_A ln, rn_A fm, rn_A tt, rn_A le, rn_A li, rn_A rk, rn_A we, rn_A op, rn_A ca, rn_A mk, rn_B wd, rn_B wn, rn_A pc, rn_A ph, rn_A pa, rn_A pe, rn_A pt, rn_A tp, rn_A ac, rn_A sz, rn_A dw, rn_A st, rn_A ty, rn_A ed, rn_B ps, rn_A fr, rn_A sp, rn_A go, rn_A nz, rn_B pg, rn_B cf, rn_B ct, rn_A tk, rn_A en, rn_B ch, rn_A nw, rn_A tl) (nI c)) ∧
    (∀ post kn fa gp fs th, post (nI kn, nI tn, th, rn_T ln, rn_A op, rn_A fm, rn_A tt, rn_A le, rn_A ln, rn_A li, rn_A rk, rn_A we, rn_A ca', rn_A mk, rn_A fa, rn_A tp, rn_A ac, rn_A sz, rn_A dw, rn_A st', rn_A ty, rn_A ed', rn_A la', rn_A fr', rn_A sp', rn_A go, rn_A nz, rn_A tk, rn_C ch, rn_A en, rn_A nw, rn_A gr', rn_A cr', rn_A ne, rn_A nl, rn_A oe', rn_A ol', rn_A fl', rn_A pc, rn_A ph, rn_A pa, rn_A se, rn_A ls, rn_A mo, rn_A tl', gp, fs) → wpY_move post (nI kn, nI tn, th, rn_T ln, rn_A op, rn_A fm, rn_A tt, rn_A le, rn_A ln, rn_A li, rn_A rk, rn_A we, rn_A ca, rn_A mk, rn_A fa, rn_A tp, rn_A ac, rn_A sz, rn_A dw, rn_A st, rn_A ty, rn_A ed, rn_A la, rn_A fr, rn_A sp, rn_A go, rn_A nz, rn_A tk, rn_C ch, rn_A en, rn_A nw, rn_A gr, rn_A cr, rn_A ne, rn_A nl, rn_A oe, rn_A ol, rn_A fl, rn_A pc, rn_A ph, rn_A pa, rn_A se, rn_A ls, rn_A mo, rn_A tl, gp, fs) (nI c)) := by
  have A := rI_c I c
  have B := rI_e I (ed c)
  have P := rI_p I hc
  have G := rI_gd I c hc
  obtain ⟨q1, q2, q3, q4, q5, q6⟩ := rq_psE I.2.1 hc h2
  have C0 := I.2.2.2.2.2
  have ic : vp_in (nI c) 32 := pk_in c 32 hc
  have ie : vp_in (nI (ed c)) 16 := vp_in_nI (by omega) (by omega)
  have fu : upd (rn_A fr) (nI c).toNatClampNeg (rn_A fr (nI c).toNatClampNeg + nI (nw c)) = rn_A (ru_p fr c (fr c + nw c)) := by
    rw [rn_rA (by omega), nI_add]; exact rn_uA (by omega)
  have lr : rn_A le (nI (ed c)).toNatClampNeg = nI (le (ed c)) := rn_rA (by omega)
  have fr1 : rn_A (ru_p fr c (fr c + nw c)) (nI c).toNatClampNeg = nI (fr c + nw c) := by rw [rn_rA (by omega), ru_s]
  -- up to the branch on the end of the edge
  have headX : ∀ post, wX_moveOn_36 post (nI c) (nI (ed c)) (nI (nw c)) (nI tn) (rn_A ln) (rn_A fm) (rn_A tt) (rn_A le) (rn_A li) (rn_A rk) (rn_A we) (rn_A op) (rn_A ca) (rn_A mk) (rn_B wd) (rn_B wn) (rn_A pc) (rn_A ph) (rn_A pa) (rn_A pe) (rn_A pt) (rn_A tp) (rn_A ac) (rn_A sz) (rn_A dw) (rn_A st) (rn_A ty) (rn_A ed) (rn_B ps) (rn_A fr) (rn_A sp) (rn_A go) (rn_A nz) (rn_B pg) (rn_B cf) (rn_B ct) (rn_A tk) (rn_A en) (rn_B ch) (rn_A nw) (rn_A tl) → wpX_moveOn post (nI tn, rn_A ln, rn_A fm, rn_A tt, rn_A le, rn_A li, rn_A rk, rn_A we, rn_A op, rn_A ca, rn_A mk, rn_B wd, rn_B wn, rn_A pc, rn_A ph, rn_A pa, rn_A pe, rn_A pt, rn_A tp, rn_A ac, rn_A sz, rn_A dw, rn_A st, rn_A ty, rn_A ed, rn_B ps, rn_A fr, rn_A sp, rn_A go, rn_A nz, rn_B pg, rn_B cf, rn_B ct, rn_A tk, rn_A en, rn_B ch, rn_A nw, rn_A tl) (nI c) := by
    intro post h
    refine ⟨ic, nm_r (rn_rA (by omega)) ⟨ic, nm_r (rn_rA (by omega)) ⟨ic, ?_⟩⟩⟩
    have e2 : rn_A sp (nI c).toNatClampNeg - 2 = ri_z ((sp c : Int) - 2) := by rw [rn_rA (by omega), ri_n, show (2 : Int32) = ri_z 2 from ri_n 2, ri_sub]
    exact ek_f (ri_l e2 (ri_n _) (by omega) (by omega)) (fun _ => h) (fun k => by omega)
  have headY : ∀ post kn fa gp fs th, wY_move_34 post (nI c) (nI (ed c)) (nI kn) (nI tn) th (rn_T ln) (rn_A op) (rn_A fm) (rn_A tt) (rn_A le) (rn_A ln) (rn_A li) (rn_A rk) (rn_A we) (rn_A ca) (rn_A mk) (rn_A fa) (rn_A tp) (rn_A ac) (rn_A sz) (rn_A dw) (rn_A st) (rn_A ty) (rn_A ed) (rn_A la) (rn_A fr) (rn_A sp) (rn_A go) (rn_A nz) (rn_A tk) (rn_C ch) (rn_A en) (rn_A nw) (rn_A gr) (rn_A cr) (rn_A ne) (rn_A nl) (rn_A oe) (rn_A ol) (rn_A fl) (rn_A pc) (rn_A ph) (rn_A pa) (rn_A se) (rn_A ls) (rn_A mo) (rn_A tl) gp fs → wpY_move post (nI kn, nI tn, th, rn_T ln, rn_A op, rn_A fm, rn_A tt, rn_A le, rn_A ln, rn_A li, rn_A rk, rn_A we, rn_A ca, rn_A mk, rn_A fa, rn_A tp, rn_A ac, rn_A sz, rn_A dw, rn_A st, rn_A ty, rn_A ed, rn_A la, rn_A fr, rn_A sp, rn_A go, rn_A nz, rn_A tk, rn_C ch, rn_A en, rn_A nw, rn_A gr, rn_A cr, rn_A ne, rn_A nl, rn_A oe, rn_A ol, rn_A fl, rn_A pc, rn_A ph, rn_A pa, rn_A se, rn_A ls, rn_A mo, rn_A tl, gp, fs) (nI c) := by
    intro post kn fa gp fs th h
    refine ⟨ic, nm_r (rn_rA (by omega)) ⟨ic, ic, ?_⟩⟩
    have e2 : rn_A sp (nI c).toNatClampNeg - rn_A nw (nI c).toNatClampNeg = ri_z ((sp c : Int) - nw c) := by rw [rn_rA (by omega), rn_rA (by omega), ri_n, ri_n, ri_sub]
    exact ek_f (ri_l e2 (ri_n 2) (by omega) (by omega)) (fun _ => h) (fun k => by omega)
  obtain ⟨a1, a2, a3, a4, a5, a6, a7, a8⟩ := I
  have C1 := rq_mvA (c := c) (x := fr c + nw c) (y := nw c) a2 (by omega) hu
  rcases Nat.lt_or_ge (le (ed c)) (fr c + nw c) with z | z
  · rcases Nat.decEq (go c) (ed c) with g | g
    · -- crosses
      have pp : 0 < pg c := by
        rcases Nat.eq_zero_or_pos (pg c) with w | w
        · have := k0 w g; omega
        · exact w
      obtain ⟨g1, g2, g3, g4, g5⟩ := rq_pgS a2 hc pp
      have LL := a1.1 (ne c)
      have C2 := rq_mvX (c := c) (x := fr c + nw c - le (ed c)) C1 (fun e => (a1.1 e).1) hc pp (by omega)
      have hq2 : (pg c - 1) / 2 = ne c := by omega
      refine ⟨ru_p ca (ne c) (ca (ne c) + 1), st, ru_p ed c (ne c), ru_p (ru_p fr c (fr c + nw c)) c (fr c + nw c - le (ed c)), ru_p sp c (nw c), ru_p ps c (pg c), ru_p pg c 0, ru_p cf c (ps c), ru_p ct c (pg c), ru_p la c (nl c), ru_p gr c 0, ru_p cr c 1, ru_p oe c (ed c), ru_p ol c (la c), ru_p fl c (nl c), tl, ⟨a1, C2, a3, a4, a5, a6, a7, a8⟩, ?_, fun d hd => ?_, fun post h => headX post ?_, fun post kn fa gp fs th h => headY post kn fa gp fs th ?_⟩
      · refine ⟨fun w => by omega, fun _ w => by rw [q1] at w; omega, fun _ _ w => by rw [q1] at w; exact absurd w g, fun _ _ _ => ⟨pp, ru_s, ru_s, ?_, ru_s⟩⟩
        rw [q1, ru_s]; omega
      · rw [ru_n hd, ru_n hd, ru_n hd, ru_n hd, ru_n hd]; exact ⟨rfl, rfl, rfl, rfl⟩
      · refine ⟨ic, nm_r (rn_uA (by omega)) ⟨ic, ic, nm_r fu ⟨ic, ie, ?_⟩⟩⟩
        rw [lr, fr1]
        refine br_t (nI_lt z (by omega)) ⟨ic, ek_f (rn_e (rn_rA (by omega)) rfl (by omega) (by omega)) (fun k => absurd k g) (fun _ => ⟨ic, ?_⟩)⟩
        have gb : rn_B pg (nI c).toNatClampNeg = rn_c (pg c) := rn_rB (by omega)
        rw [gb, rn_rB (f := ps) (by omega)]
        have e1 : nI (fr c + nw c) - nI (le (ed c)) = nI (fr c + nw c - le (ed c)) := pk_sub (by omega)
        have e2 : rn_c (pg c) / 2 = nI (ne c) := by
          rw [rn_cs pp, show nI (pg c - 1) / 2 = nI ((pg c - 1) / 2) from pk_div (d := 2) (by omega) (by omega) (by omega), hq2]
        rw [e1, e2]
        refine br_f (fun k => by have := (rn_c2 (by omega)).mp k; omega) ⟨ic, ie, ic, nm_r (rn_uA (by omega)) ⟨ic, ic, nm_r (rn_uB (by omega)) ⟨ic, ic, nm_r (rn_uB (by omega)) ⟨ic, ic, nm_r (rn_uB (by omega)) ⟨ic, by decide, ic, nm_r (rn_uA (by omega)) ⟨ic, nm_r (rn_uB (x := 0) (by omega)) ⟨ic, ?_⟩⟩⟩⟩⟩⟩⟩
        have e3 : rn_A (ru_p ed c (ne c)) (nI c).toNatClampNeg = nI (ne c) := by rw [rn_rA (by omega), ru_s]
        rw [e3]
        refine ⟨vp_in_nI g5 (by omega), vp_in_nI g5 (by omega), nm_r (e' := rn_A (ru_p ca (ne c) (ca (ne c) + 1))) ?_ h⟩
        rw [rn_rA (by omega), nI_1]
        exact rn_uA (by omega)
      · have wl : rn_A nw (nI c).toNatClampNeg = nI (nw c) := rn_rA (by omega)
        unfold wY_move_34
        rw [wl]
        refine ⟨ic, ic, ic, nm_r fu ⟨ic, ic, nm_r (rn_uA (by omega)) ⟨ic, ie, ?_⟩⟩⟩
        rw [lr, fr1]
        refine br_f (nI_ge z (by omega)) ⟨ic, ?_⟩
        refine ek_f (rn_e rfl (rn_rA (by omega)) (by omega) (by omega)) (fun k => absurd k.symm g) (fun _ => ⟨ic, nm_r (rn_uA (by omega)) ⟨ic, ic, ?_⟩⟩)
        rw [rn_rA (f := la) (by omega), fr1, lr, rn_rA (f := ne) (by omega), rn_rA (f := nl) (by omega), rn_vb, rn_vf]
        have e1 : nI (fr c + nw c) - nI (le (ed c)) = nI (fr c + nw c - le (ed c)) := pk_sub (by omega)
        rw [e1]
        refine nm_r (rn_uA (by omega)) ⟨ic, ie, ic, nm_r (rn_uA (by omega)) ⟨ic, ic, nm_r (rn_uA (by omega)) ⟨ic, ic, nm_r (rn_uA (by omega)) ⟨ic, ic, nm_r (rn_uA (by omega)) ⟨ic, nm_r (rn_uA (x := 1) (by omega)) ⟨ic, nm_r (rn_uA (x := 0) (by omega)) ⟨ic, ?_⟩⟩⟩⟩⟩⟩⟩
        have e3 : rn_A (ru_p ed c (ne c)) (nI c).toNatClampNeg = nI (ne c) := by rw [rn_rA (by omega), ru_s]
        rw [e3]
        refine ⟨vp_in_nI g5 (by omega), vp_in_nI g5 (by omega), nm_r (e' := rn_A (ru_p ca (ne c) (ca (ne c) + 1))) ?_ h⟩
        rw [rn_rA (by omega), nI_1]
        exact rn_uA (by omega)
    · -- arrives
      have tv : ∀ f : Nat → Nat, f 0 = N → rn_A f 6 + (rn_A f 0 - rn_A en (nI c).toNatClampNeg) = nI (f 6 + (f 0 - en c)) := by
        intro f f0
        rw [rn_rA (by omega), show rn_A f 0 = nI (f 0) from rfl, show rn_A f 6 = nI (f 6) from rfl, pk_sub (by omega), nI_add]
      refine ⟨ca, ru_p st c 0, ed, ru_p fr c (fr c + nw c), ru_p sp c (nw c), ru_p ps c 0, ru_p pg c 0, ru_p cf c 0, ru_p ct c 0, la, ru_p gr c 0, cr, oe, ol, fl, ru_p (ru_p tl 2 (tl 2 + 1)) 6 (ru_p tl 2 (tl 2 + 1) 6 + (ru_p tl 2 (tl 2 + 1) 0 - en c)), ⟨a1, rq_mvB C1, a3, a4, a5, by rw [ru_n (by omega), ru_n (by omega)]; exact a6, a7, a8⟩, ?_, fun d hd => ?_, fun post h => headX post ?_, fun post kn fa gp fs th h => headY post kn fa gp fs th ?_⟩
      · exact ⟨fun w => by omega, fun _ w => by rw [q1] at w; omega, fun _ _ _ => ⟨ru_s, ru_s⟩, fun _ _ w => by rw [q1] at w; exact absurd g w⟩
      · rw [ru_n hd, ru_n hd, ru_n hd, ru_n hd]; exact ⟨rfl, rfl, rfl, rfl⟩
      · refine ⟨ic, nm_r (rn_uA (by omega)) ⟨ic, ic, nm_r fu ⟨ic, ie, ?_⟩⟩⟩
        rw [lr, fr1]
        refine br_t (nI_lt z (by omega)) ⟨ic, ek_f (rn_e (rn_rA (by omega)) rfl (by omega) (by omega)) (fun _ => nm_r (rn_u3 2) ⟨ic, nm_r (e' := rn_A (ru_p (ru_p tl 2 (tl 2 + 1)) 6 (ru_p tl 2 (tl 2 + 1) 6 + (ru_p tl 2 (tl 2 + 1) 0 - en c)))) ?_ (rx_to _ rfl hc h)⟩) (fun k => absurd g k)⟩
        rw [tv _ (by rw [ru_n (by omega)]; exact a6)]
        exact rn_uk
      · have wl : rn_A nw (nI c).toNatClampNeg = nI (nw c) := rn_rA (by omega)
        unfold wY_move_34
        rw [wl]
        refine ⟨ic, ic, ic, nm_r fu ⟨ic, ic, nm_r (rn_uA (by omega)) ⟨ic, ie, ?_⟩⟩⟩
        rw [lr, fr1]
        refine br_f (nI_ge z (by omega)) ⟨ic, ek_f (rn_e rfl (rn_rA (by omega)) (by omega) (by omega)) (fun _ => ⟨ic, nm_r (rn_uA (x := 0) (by omega)) ⟨ic, nm_r (rn_uA (x := 0) (by omega)) (nm_r (rn_u3 2) ⟨ic, nm_r (e' := rn_A (ru_p (ru_p tl 2 (tl 2 + 1)) 6 (ru_p tl 2 (tl 2 + 1) 6 + (ru_p tl 2 (tl 2 + 1) 0 - en c)))) ?_ h⟩)⟩⟩) (fun k => absurd g.symm k)⟩
        rw [tv _ (by rw [ru_n (by omega)]; exact a6)]
        exact rn_uk
  · -- stays
    refine ⟨ca, st, ed, ru_p fr c (fr c + nw c), ru_p sp c (nw c), ps, pg, cf, ct, la, gr, cr, oe, ol, fl, tl, ⟨a1, C1, a3, a4, a5, a6, a7, a8⟩, ?_, fun d hd => ?_, fun post h => headX post ?_, fun post kn fa gp fs th h => headY post kn fa gp fs th ?_⟩
    · exact ⟨fun w => by omega, fun _ _ => ⟨rfl, rfl, ru_s, ru_s⟩, fun _ w => by rw [q1] at w; omega, fun _ w => by rw [q1] at w; omega⟩
    · rw [ru_n hd, ru_n hd]; exact ⟨rfl, rfl, rfl, rfl⟩
    · refine ⟨ic, nm_r (rn_uA (by omega)) ⟨ic, ic, nm_r fu ⟨ic, ie, ?_⟩⟩⟩
      rw [lr, fr1]
      exact br_f (nI_nlt z (by omega)) h
    · have wl : rn_A nw (nI c).toNatClampNeg = nI (nw c) := rn_rA (by omega)
      unfold wY_move_34
      rw [wl]
      refine ⟨ic, ic, ic, nm_r fu ⟨ic, ic, nm_r (rn_uA (by omega)) ⟨ic, ie, ?_⟩⟩⟩
      rw [lr, fr1]
      exact br_t (nI_le z (by omega)) h
end
end
section
/-! MOVES, to the end -/
section
variable {ln fm tt le li rk we op ca mk wd wn fa pc ph pa pe pt se ls mo tp ac sz dw st ty ed fr sp go nz tk en ch nw ps pg cf ct la gr cr ne nl oe ol fl tl : Nat → Nat} {tn kn N : Nat} {th : Int32} {gp fs : Nat → Int32}
theorem rl_mvs {ps0 pg0 fr0 sp0 : Nat → Nat} (hU : ∀ c, c < 32 → 0 < ps0 c → nw c ≤ 12 ∧ sp0 c ≤ nw c + 2 ∧ fr0 c ≤ le (rd_q (ps0 c)) ∧ (pg0 c = 0 → go c ≠ rd_q (ps0 c) → fr0 c + nw c ≤ le (rd_q (ps0 c))) ∧ (0 < pg0 c → go c ≠ rd_q (ps0 c))) :
    ∀ d i, i + d = 32 → ∀ ca st ed fr sp ps pg cf ct la gr cr oe ol fl tl : Nat → Nat, (rq_L ln fm tt le li rk we op mk wd wn pc ph pa pe pt se ls mo tp ac sz dw st ty ed fr sp go tk en ch ps pg cf ct la gr cr ne nl oe ol fl tl tn N) → (∀ c, c < i → rd_M1 le ps0 pg0 fr0 go nw ps pg fr sp c) → (∀ c, i ≤ c → c < 32 → ps c = ps0 c ∧ pg c = pg0 c ∧ fr c = fr0 c ∧ sp c = sp0 c) →
    ∃ ca' st' ed' fr' sp' ps' pg' cf' ct' la' gr' cr' oe' ol' fl' tl' : Nat → Nat, (rq_L ln fm tt le li rk we op mk wd wn pc ph pa pe pt se ls mo tp ac sz dw st' ty ed' fr' sp' go tk en ch ps' pg' cf' ct' la' gr' cr' ne nl oe' ol' fl' tl' tn N) ∧
    (∀ c, c < 32 → rd_M1 le ps0 pg0 fr0 go nw ps' pg' fr' sp' c) ∧
    (∀ post, post (nI tn, rn_A ln, rn_A fm, rn_A tt, rn_A le, rn_A li, rn_A rk, rn_A we, rn_A op, rn_A ca', rn_A mk, rn_B wd, rn_B wn, rn_A pc, rn_A ph, rn_A pa, rn_A pe, rn_A pt, rn_A tp, rn_A ac, rn_A sz, rn_A dw, rn_A st', rn_A ty, rn_A ed', rn_B ps', rn_A fr', rn_A sp', rn_A go, rn_A nz, rn_B pg', rn_B cf', rn_B ct', rn_A tk, rn_A en, rn_B ch, rn_A nw, rn_A tl') → wX_moveCars_44 post (d + 1) (nI i) (nI tn) (rn_A ln) (rn_A fm) (rn_A tt) (rn_A le) (rn_A li) (rn_A rk) (rn_A we) (rn_A op) (rn_A ca) (rn_A mk) (rn_B wd) (rn_B wn) (rn_A pc) (rn_A ph) (rn_A pa) (rn_A pe) (rn_A pt) (rn_A tp) (rn_A ac) (rn_A sz) (rn_A dw) (rn_A st) (rn_A ty) (rn_A ed) (rn_B ps) (rn_A fr) (rn_A sp) (rn_A go) (rn_A nz) (rn_B pg) (rn_B cf) (rn_B ct) (rn_A tk) (rn_A en) (rn_B ch) (rn_A nw) (rn_A tl)) ∧
    (∀ post kn fa gp fs th, (∃ n155, wY_stepOn_155 post n155 0 (nI kn) (nI tn) th (rn_T ln) (rn_A op) (rn_A fm) (rn_A tt) (rn_A le) (rn_A ln) (rn_A li) (rn_A rk) (rn_A we) (rn_A ca') (rn_A mk) (rn_A fa) (rn_A tp) (rn_A ac) (rn_A sz) (rn_A dw) (rn_A st') (rn_A ty) (rn_A ed') (rn_A la') (rn_A fr') (rn_A sp') (rn_A go) (rn_A nz) (rn_A tk) (rn_C ch) (rn_A en) (rn_A nw) (rn_A gr') (rn_A cr') (rn_A ne) (rn_A nl) (rn_A oe') (rn_A ol') (rn_A fl') (rn_A pc) (rn_A ph) (rn_A pa) (rn_A se) (rn_A ls) (rn_A mo) (rn_A tl') gp fs) → wY_stepOn_126 post (d + 1) (nI i) (nI kn) (nI tn) th (rn_T ln) (rn_A op) (rn_A fm) (rn_A tt) (rn_A le) (rn_A ln) (rn_A li) (rn_A rk) (rn_A we) (rn_A ca) (rn_A mk) (rn_A fa) (rn_A tp) (rn_A ac) (rn_A sz) (rn_A dw) (rn_A st) (rn_A ty) (rn_A ed) (rn_A la) (rn_A fr) (rn_A sp) (rn_A go) (rn_A nz) (rn_A tk) (rn_C ch) (rn_A en) (rn_A nw) (rn_A gr) (rn_A cr) (rn_A ne) (rn_A nl) (rn_A oe) (rn_A ol) (rn_A fl) (rn_A pc) (rn_A ph) (rn_A pa) (rn_A se) (rn_A ls) (rn_A mo) (rn_A tl) gp fs) := by
  intro d
  induction d with
  | zero =>
    intro i hi ca st ed fr sp ps pg cf ct la gr cr oe ol fl tl I hM hS
    have e : i = 32 := by omega
    subst e
    exact ⟨ca, st, ed, fr, sp, ps, pg, cf, ct, la, gr, cr, oe, ol, fl, tl, I, hM, fun post h => br_t (by decide) h, fun post kn fa gp fs th h => br_t (by decide) h⟩
  | succ d ih =>
    intro i hi ca st ed fr sp ps pg cf ct la gr cr oe ol fl tl I hM hS
    have i32 : i < 32 := by omega
    have A := rI_c I i
    obtain ⟨s1, s2, s3, s4⟩ := hS i (Nat.le_refl _) i32
    rcases Nat.decEq (st i) 2 with q | q
    · have P := (rI_p I i32).2.2.2.2.1 q
      obtain ⟨ca', st', ed', fr', sp', ps', pg', cf', ct', la', gr', cr', oe', ol', fl', tl', I', M', hx, hy⟩ := ih (i + 1) (by omega) ca st ed fr sp ps pg cf ct la gr cr oe ol fl tl I (lt_s hM ⟨fun _ => ⟨P.1, P.2.1⟩, fun w => by omega, fun w => by omega, fun w => by omega⟩) (fun c h1 h2 => hS c (by omega) h2)
      refine ⟨ca', st', ed', fr', sp', ps', pg', cf', ct', la', gr', cr', oe', ol', fl', tl', I', M', fun post h => br_f (nI_ge (b := 32) i32 (by decide)) ⟨pk_in i 32 i32, ?_⟩, fun post kn fa gp fs th h => br_f (nI_ge (b := 32) i32 (by decide)) ⟨pk_in i 32 i32, ?_⟩⟩
      · exact ek_f (rn_e (rn_rA (by omega)) (b := 2) rfl (by omega) (by omega)) (fun k => absurd k q) (fun _ => nm_r (nI_1 i) (hx post h))
      · exact ek_f (rn_e (rn_rA (by omega)) (b := 2) rfl (by omega) (by omega)) (fun k => absurd k q) (fun _ => nm_r (nI_1 i) (hy post kn fa gp fs th h))
    · obtain ⟨q1, q2, q3, q4, q5, q6⟩ := rq_psE I.2.1 i32 q
      obtain ⟨u1, u2, u3, u4, u5⟩ := hU i i32 (by omega)
      rw [← s1, q1] at u3 u4 u5
      rw [← s2] at u4 u5
      rw [← s3] at u3 u4
      rw [← s4] at u2
      obtain ⟨ca1, st1, ed1, fr1, sp1, ps1, pg1, cf1, ct1, la1, gr1, cr1, oe1, ol1, fl1, tl1, I1, M1, O1, x1, y1⟩ := rl_mv1 (ca := ca) (nw := nw) I i32 q u1 u2 u3 u4 u5
      have M2 : ∀ c, c < i + 1 → rd_M1 le ps0 pg0 fr0 go nw ps1 pg1 fr1 sp1 c := by
        intro c hc
        rcases Nat.decEq c i with z | z
        · obtain ⟨o1, o2, o3, o4⟩ := O1 c z
          have := hM c (by omega)
          unfold rd_M1 at this ⊢
          rw [o1, o2, o3, o4]
          exact this
        · subst z
          unfold rd_M1 at M1 ⊢
          rw [← s1, ← s2, ← s3]
          exact M1
      obtain ⟨ca', st', ed', fr', sp', ps', pg', cf', ct', la', gr', cr', oe', ol', fl', tl', I', M', hx, hy⟩ := ih (i + 1) (by omega) ca1 st1 ed1 fr1 sp1 ps1 pg1 cf1 ct1 la1 gr1 cr1 oe1 ol1 fl1 tl1 I1 M2 (fun c h1 h2 => by
        obtain ⟨o1, o2, o3, o4⟩ := O1 c (by omega)
        rw [o1, o2, o3, o4]
        exact hS c (by omega) h2)
      refine ⟨ca', st', ed', fr', sp', ps', pg', cf', ct', la', gr', cr', oe', ol', fl', tl', I', M', fun post h => br_f (nI_ge (b := 32) i32 (by decide)) ⟨pk_in i 32 i32, ?_⟩, fun post kn fa gp fs th h => br_f (nI_ge (b := 32) i32 (by decide)) ⟨pk_in i 32 i32, ?_⟩⟩
      · exact ek_f (rn_e (rn_rA (by omega)) (b := 2) rfl (by omega) (by omega)) (fun _ => x1 _ (nm_r (nI_1 i) (hx post h))) (fun k => absurd q k)
      · exact ek_f (rn_e (rn_rA (by omega)) (b := 2) rfl (by omega) (by omega)) (fun _ => y1 _ kn fa gp fs th (nm_r (nI_1 i) (hy post kn fa gp fs th h))) (fun k => absurd q k)
theorem rl_mv (I : (rq_I ln fm tt le li rk we op mk wd wn pc ph pa pe pt se ls mo tp ac sz dw st ty ed fr sp go tk en ch ps pg cf ct la gr cr ne nl oe ol fl tl tn N)) : ∃ nz' nw' ca' st' ed' fr' sp' ps' pg' cf' ct' la' gr' cr' oe' ol' fl' tl' : Nat → Nat, (rq_I ln fm tt le li rk we op mk wd wn pc ph pa pe pt se ls mo tp ac sz dw st' ty ed' fr' sp' go tk en ch ps' pg' cf' ct' la' gr' cr' ne nl oe' ol' fl' tl' tn N) ∧
    (∀ post, post (nI tn, rn_A ln, rn_A fm, rn_A tt, rn_A le, rn_A li, rn_A rk, rn_A we, rn_A op, rn_A ca', rn_A mk, rn_B wd, rn_B wn, rn_A pc, rn_A ph, rn_A pa, rn_A pe, rn_A pt, rn_A tp, rn_A ac, rn_A sz, rn_A dw, rn_A st', rn_A ty, rn_A ed', rn_B ps', rn_A fr', rn_A sp', rn_A go, rn_A nz', rn_B pg', rn_B cf', rn_B ct', rn_A tk, rn_A en, rn_B ch, rn_A nw', rn_A tl') → wpX_moveCars post (nI tn, rn_A ln, rn_A fm, rn_A tt, rn_A le, rn_A li, rn_A rk, rn_A we, rn_A op, rn_A ca, rn_A mk, rn_B wd, rn_B wn, rn_A pc, rn_A ph, rn_A pa, rn_A pe, rn_A pt, rn_A tp, rn_A ac, rn_A sz, rn_A dw, rn_A st, rn_A ty, rn_A ed, rn_B ps, rn_A fr, rn_A sp, rn_A go, rn_A nz, rn_B pg, rn_B cf, rn_B ct, rn_A tk, rn_A en, rn_B ch, rn_A nw, rn_A tl)) ∧
    (∀ post kn fa gp fs th, (∀ gp fs th, ∃ n155, wY_stepOn_155 post n155 0 (nI kn) (nI tn) th (rn_T ln) (rn_A op) (rn_A fm) (rn_A tt) (rn_A le) (rn_A ln) (rn_A li) (rn_A rk) (rn_A we) (rn_A ca') (rn_A mk) (rn_A fa) (rn_A tp) (rn_A ac) (rn_A sz) (rn_A dw) (rn_A st') (rn_A ty) (rn_A ed') (rn_A la') (rn_A fr') (rn_A sp') (rn_A go) (rn_A nz') (rn_A tk) (rn_C ch) (rn_A en) (rn_A nw') (rn_A gr') (rn_A cr') (rn_A ne) (rn_A nl) (rn_A oe') (rn_A ol') (rn_A fl') (rn_A pc) (rn_A ph) (rn_A pa) (rn_A se) (rn_A ls) (rn_A mo) (rn_A tl') gp fs) → ∃ n97, wY_stepOn_97 post n97 0 (nI kn) (nI tn) th (rn_T ln) (rn_A op) (rn_A fm) (rn_A tt) (rn_A le) (rn_A ln) (rn_A li) (rn_A rk) (rn_A we) (rn_A ca) (rn_A mk) (rn_A fa) (rn_A tp) (rn_A ac) (rn_A sz) (rn_A dw) (rn_A st) (rn_A ty) (rn_A ed) (rn_A la) (rn_A fr) (rn_A sp) (rn_A go) (rn_A nz) (rn_A tk) (rn_C ch) (rn_A en) (rn_A nw) (rn_A gr) (rn_A cr) (rn_A ne) (rn_A nl) (rn_A oe) (rn_A ol) (rn_A fl) (rn_A pc) (rn_A ph) (rn_A pa) (rn_A se) (rn_A ls) (rn_A mo) (rn_A tl) gp fs) := by
  obtain ⟨nz', nw', h1, _, hx, hy⟩ := rl_ch I 32 0 rfl nz nw
  have st2 : ∀ c, c < 32 → 0 < ps c → st c = 2 := by
    intro c hc h
    rcases Nat.decEq (st c) 2 with z | z
    · have := ((rI_p I.1 hc).2.2.2.2.1 z).1; omega
    · exact z
  have U1 : ∀ c, c < 32 → 0 < ps c → nw' c ≤ 12 ∧ sp c ≤ nw' c + 2 ∧ (∀ a, a < 32 → ps a = ps c → fr c < fr a → rd_Bd (fr c) (nw' c) (fr a) (sp a) (sz (ty a))) ∧ (0 < pg c → ∀ b, b < 32 → ps b = pg c → rd_Bd (fr c) (nw' c) (fr b + le (rd_q (ps c))) (sp b) (sz (ty b))) ∧ (pg c = 0 → go c ≠ rd_q (ps c) → nw' c = 0 ∨ nw' c + rd_D (nw' c) + fr c ≤ le (rd_q (ps c))) ∧ (0 < pg c → go c ≠ rd_q (pg c) → nw' c = 0 ∨ nw' c + rd_D (nw' c) + fr c ≤ le (rd_q (ps c)) + le (rd_q (pg c))) := by
    intro c hc hp
    have T := rI_y I.1 c
    obtain ⟨v, hv, hw⟩ := h1 c (Nat.zero_le _) hc (st2 c hc hp)
    exact rq_U1 I.1.2.1 I.2 hc (st2 c hc hp) T.2.2.1 T.2.1 hv hw
  have hU : rd_U le ps pg fr sp go (fun x => sz (ty x)) nw' := fun c hc hp => (U1 c hc hp).2
  obtain ⟨ca', st', ed', fr', sp', ps', pg', cf', ct', la', gr', cr', oe', ol', fl', tl', I', M', mx, my⟩ := rl_mvs (nw := nw') (nz := nz') (ps0 := ps) (pg0 := pg) (fr0 := fr) (sp0 := sp) (fun c hc hp => by
      obtain ⟨b1, b2, _, _, b5, _⟩ := U1 c hc hp
      have F := (I.2.2.2.2.2.2 c hc).1 hp
      refine ⟨b1, b2, F.2, fun g0 gn => ?_, fun g0 => ((I.2.2.2.2.2.2 c hc).2 g0).2.2.1⟩
      rcases b5 g0 gn with z | z <;> omega) 32 0 rfl ca st ed fr sp ps pg cf ct la gr cr oe ol fl tl I.1 (fun c hc => absurd hc (Nat.not_lt_zero c)) (fun c _ _ => ⟨rfl, rfl, rfl, rfl⟩)
  refine ⟨nz', nw', ca', st', ed', fr', sp', ps', pg', cf', ct', la', gr', cr', oe', ol', fl', tl', ⟨I', rd_mAll I.2 (fun c hc hg => ?_) (fun c hc hp => (U1 c hc hp).1) hU M'⟩, fun post h => ⟨33, hx post ⟨33, mx post h⟩⟩, fun post kn fa gp fs th h => ⟨33, hy post kn fa gp fs th (fun gp fs th => ⟨33, my post kn fa gp fs th (h gp fs th)⟩)⟩⟩
  obtain ⟨g1, g2, g3, g4, g5⟩ := rq_pgS I.1.2.1 hc hg
  have LL := rI_e I.1 (ne c)
  rw [g3, rd_qE (by omega)]
  exact (rI_t I.1 (by omega)).2.1
end
end
section
/-! ENTRIES -/
section
variable {ln fm tt le li rk we op ca mk wd wn fa pc ph pa pe pt se ls mo tp ac sz dw st ty ed fr sp go nz tk en ch nw ps pg cf ct la gr cr ne nl oe ol fl tl : Nat → Nat} {tn kn N : Nat} {th : Int32} {gp fs : Nat → Int32}
/-- the lane to enter: l of the edge, by code; 0 for none -/
def rq_se (ln fm tt mk wn ed go : Nat → Nat) (c s : Nat) : Prop := (s = 0 ∧ go c ≠ ed c ∧ rq_nx wn ed go c = 0) ∨ (go c = ed c ∧ s = 2 * ed c + 1) ∨ (go c ≠ ed c ∧ 0 < rq_nx wn ed go c ∧ (rq_ld ln fm tt mk) (2 * ed c) (rq_nx wn ed go c - 1) ∧ s = 2 * ed c + 1) ∨ (go c ≠ ed c ∧ 0 < rq_nx wn ed go c ∧ ¬ (rq_ld ln fm tt mk) (2 * ed c) (rq_nx wn ed go c - 1) ∧ ln (ed c) = 2 ∧ (rq_ld ln fm tt mk) (2 * ed c + 1) (rq_nx wn ed go c - 1) ∧ s = 2 * ed c + 2)
theorem rq_seX (I : (rq_L ln fm tt le li rk we op mk wd wn pc ph pa pe pt se ls mo tp ac sz dw st ty ed fr sp go tk en ch ps pg cf ct la gr cr ne nl oe ol fl tl tn N)) (c : Nat) : ∃ s, rq_se ln fm tt mk wn ed go c s := by
  obtain ⟨x1, x2⟩ := rI_nx I c
  rcases Nat.decEq (go c) (ed c) with q | q
  · rcases Nat.eq_zero_or_pos ((rq_nx wn ed go) c) with z | z
    · exact ⟨0, Or.inl ⟨rfl, q, z⟩⟩
    · rcases (x2 z).2.2.2 with w | w
      · exact ⟨_, Or.inr (Or.inr (Or.inl ⟨q, z, w, rfl⟩))⟩
      · rcases Classical.em ((rq_ld ln fm tt mk) (2 * ed c) ((rq_nx wn ed go) c - 1)) with y | y
        · exact ⟨_, Or.inr (Or.inr (Or.inl ⟨q, z, y, rfl⟩))⟩
        · exact ⟨_, Or.inr (Or.inr (Or.inr ⟨q, z, y, w.1, w.2, rfl⟩))⟩
  · exact ⟨_, Or.inr (Or.inl ⟨q, rfl⟩)⟩
theorem rx_se (post : Int32 → Prop) {c s : Nat} {x : Int32} (hx : x = nI c) (I : (rq_L ln fm tt le li rk we op mk wd wn pc ph pa pe pt se ls mo tp ac sz dw st ty ed fr sp go tk en ch ps pg cf ct la gr cr ne nl oe ol fl tl tn N)) (hc : c < 32) (hl : 0 < ln (ed c)) (hs : rq_se ln fm tt mk wn ed go c s) (h : post (rn_c s)) : wpX_spotToEnter post (nI tn, rn_A ln, rn_A fm, rn_A tt, rn_A le, rn_A li, rn_A rk, rn_A we, rn_A op, rn_A ca, rn_A mk, rn_B wd, rn_B wn, rn_A pc, rn_A ph, rn_A pa, rn_A pe, rn_A pt, rn_A tp, rn_A ac, rn_A sz, rn_A dw, rn_A st, rn_A ty, rn_A ed, rn_B ps, rn_A fr, rn_A sp, rn_A go, rn_A nz, rn_B pg, rn_B cf, rn_B ct, rn_A tk, rn_A en, rn_B ch, rn_A nw, rn_A tl) x := by
  subst hx
  have A := rI_c I c
  have B := rI_e I (ed c)
  obtain ⟨x1, x2⟩ := rI_nx I c
  have m2 : (2 : Int32) * nI (ed c) = nI (2 * ed c) := pk_mul 2 _
  refine ⟨pk_in c 32 hc, nm_r (rn_rA (by omega)) ⟨pk_in c 32 hc, ?_⟩⟩
  refine ek_f (rn_e (rn_rA (by omega)) rfl (by omega) (by omega)) (fun k => ?_) (fun k => ?_)
  · rw [m2]
    rcases hs with z | z | z | z
    · exact absurd k z.2.1
    · rw [z.2] at h; exact h
    · exact absurd k z.1
    · exact absurd k z.1
  · refine rx_nx _ rfl hc (rI_ed I) (fun c => (rI_c I c).2.2.2.1) ⟨3, vp_in_nI (by omega) (by omega), ?_⟩
    have e0 : (2 : Int32) * nI (ed c) + 0 = nI (2 * ed c) := by rw [m2]; exact Int32.add_zero _
    have e1 : (2 : Int32) * nI (ed c) + nI 1 = nI (2 * ed c + 1) := by rw [m2, nI_add]
    refine pk_le (ln (ed c)) 0 (fun z => by omega) (fun _ => rx_ld _ e0 rfl I.1 (by omega) x1 ?_) (rn_rA (by omega))
    rw [e0]
    refine rb_b (fun k1 => nm_r (e' := nI 1) rfl ⟨vp_in_nI (by omega) (by omega), ?_⟩) (fun k1 => ?_)
    · refine pk_le (ln (ed c)) 1 (fun k2 => ?_) (fun k2 => rx_ld _ e1 rfl I.1 (by omega) x1 ?_) (rn_rA (by omega))
      · rcases hs with z | z | z | z
        · rw [z.1] at h; exact h
        · exact absurd z.1 k
        · exact absurd ⟨z.2.1, z.2.2.1⟩ k1
        · omega
      · rw [e1]
        refine rb_b (fun k3 => nm_r (e' := nI 2) rfl ⟨vp_in_nI (by omega) (by omega), pk_le (ln (ed c)) 2 (fun _ => ?_) (fun z => by omega) (rn_rA (by omega))⟩) (fun k3 => ?_)
        · rcases hs with z | z | z | z
          · rw [z.1] at h; exact h
          · exact absurd z.1 k
          · exact absurd ⟨z.2.1, z.2.2.1⟩ k1
          · exact absurd ⟨z.2.1, z.2.2.2.2.1⟩ k3
        · rcases hs with z | z | z | z
          · omega
          · exact absurd z.1 k
          · exact absurd ⟨z.2.1, z.2.2.1⟩ k1
          · rw [z.2.2.2.2.2] at h; exact h
    · rcases hs with z | z | z | z
      · omega
      · exact absurd z.1 k
      · rw [z.2.2.2] at h; exact h
      · exact absurd k1.2 z.2.2.1
theorem rl_let {e c : Nat} (I : (rq_I ln fm tt le li rk we op mk wd wn pc ph pa pe pt se ls mo tp ac sz dw st ty ed fr sp go tk en ch ps pg cf ct la gr cr ne nl oe ol fl tl tn N)) (he : e < 16) (hle : 0 < ln e) (hc : c < 32) (h1 : st c = 1) (hed : ed c = e) (hfw : rd_fw st ed tk e 32 = c + 1) :
    ∃ ca' st' fr' sp' en' ps' la' cr' tl' : Nat → Nat, (rq_I ln fm tt le li rk we op mk wd wn pc ph pa pe pt se ls mo tp ac sz dw st' ty ed fr' sp' go tk en' ch ps' pg cf ct la' gr cr' ne nl oe ol fl tl' tn N) ∧
    (∀ post, post (nI tn, rn_A ln, rn_A fm, rn_A tt, rn_A le, rn_A li, rn_A rk, rn_A we, rn_A op, rn_A ca', rn_A mk, rn_B wd, rn_B wn, rn_A pc, rn_A ph, rn_A pa, rn_A pe, rn_A pt, rn_A tp, rn_A ac, rn_A sz, rn_A dw, rn_A st', rn_A ty, rn_A ed, rn_B ps', rn_A fr', rn_A sp', rn_A go, rn_A nz, rn_B pg, rn_B cf, rn_B ct, rn_A tk, rn_A en', rn_B ch, rn_A nw, rn_A tl') → wpX_letIn post (nI tn, rn_A ln, rn_A fm, rn_A tt, rn_A le, rn_A li, rn_A rk, rn_A we, rn_A op, rn_A ca, rn_A mk, rn_B wd, rn_B wn, rn_A pc, rn_A ph, rn_A pa, rn_A pe, rn_A pt, rn_A tp, rn_A ac, rn_A sz, rn_A dw, rn_A st, rn_A ty, rn_A ed, rn_B ps, rn_A fr, rn_A sp, rn_A go, rn_A nz, rn_B pg, rn_B cf, rn_B ct, rn_A tk, rn_A en, rn_B ch, rn_A nw, rn_A tl) (nI c)) ∧
    (∀ post kn fa gp fs th, (rq_WY ln fm tt le li we op mk fa kn) → (∀ kn fa, (rq_WY ln fm tt le li we op mk fa kn) → post (nI kn, nI tn, th, rn_T ln, rn_A op, rn_A fm, rn_A tt, rn_A le, rn_A ln, rn_A li, rn_A rk, rn_A we, rn_A ca', rn_A mk, rn_A fa, rn_A tp, rn_A ac, rn_A sz, rn_A dw, rn_A st', rn_A ty, rn_A ed, rn_A la', rn_A fr', rn_A sp', rn_A go, rn_A nz, rn_A tk, rn_C ch, rn_A en', rn_A nw, rn_A gr, rn_A cr', rn_A ne, rn_A nl, rn_A oe, rn_A ol, rn_A fl, rn_A pc, rn_A ph, rn_A pa, rn_A se, rn_A ls, rn_A mo, rn_A tl', gp, fs)) → wpY_enter post (nI kn, nI tn, th, rn_T ln, rn_A op, rn_A fm, rn_A tt, rn_A le, rn_A ln, rn_A li, rn_A rk, rn_A we, rn_A ca, rn_A mk, rn_A fa, rn_A tp, rn_A ac, rn_A sz, rn_A dw, rn_A st, rn_A ty, rn_A ed, rn_A la, rn_A fr, rn_A sp, rn_A go, rn_A nz, rn_A tk, rn_C ch, rn_A en, rn_A nw, rn_A gr, rn_A cr, rn_A ne, rn_A nl, rn_A oe, rn_A ol, rn_A fl, rn_A pc, rn_A ph, rn_A pa, rn_A se, rn_A ls, rn_A mo, rn_A tl, gp, fs) (nI e)) := by
  have A := rI_c I.1 c
  have S := rI_y I.1 c
  have B := rI_e I.1 e
  have P := rI_p I.1 hc
  have ic : vp_in (nI c) 32 := pk_in c 32 hc
  have hT : ∀ c, ty c < 4 := fun c => (rI_c I.1 c).2.1
  obtain ⟨x1, x2⟩ := rI_nx I.1 c
  obtain ⟨s, hs⟩ := rq_seX I.1 c
  have C0 := I.1.2.2.2.2.2
  -- Y up to the lane
  have headY : ∀ (post : SY → Prop) kn fa gp fs th, (rq_WY ln fm tt le li we op mk fa kn) → (∀ kn fa, (rq_WY ln fm tt le li we op mk fa kn) → (s = 0 → post (nI kn, nI tn, th, rn_T ln, rn_A op, rn_A fm, rn_A tt, rn_A le, rn_A ln, rn_A li, rn_A rk, rn_A we, rn_A ca, rn_A mk, rn_A fa, rn_A tp, rn_A ac, rn_A sz, rn_A dw, rn_A st, rn_A ty, rn_A ed, rn_A la, rn_A fr, rn_A sp, rn_A go, rn_A nz, rn_A tk, rn_C ch, rn_A en, rn_A nw, rn_A gr, rn_A cr, rn_A ne, rn_A nl, rn_A oe, rn_A ol, rn_A fl, rn_A pc, rn_A ph, rn_A pa, rn_A se, rn_A ls, rn_A mo, rn_A tl, gp, fs)) ∧ ∀ l, l ≤ 1 → s = 2 * e + l + 1 → wY_enter_48 post (nI e) (nI c) (nI l) (nI kn) (nI tn) th (rn_T ln) (rn_A op) (rn_A fm) (rn_A tt) (rn_A le) (rn_A ln) (rn_A li) (rn_A rk) (rn_A we) (rn_A ca) (rn_A mk) (rn_A fa) (rn_A tp) (rn_A ac) (rn_A sz) (rn_A dw) (rn_A st) (rn_A ty) (rn_A ed) (rn_A la) (rn_A fr) (rn_A sp) (rn_A go) (rn_A nz) (rn_A tk) (rn_C ch) (rn_A en) (rn_A nw) (rn_A gr) (rn_A cr) (rn_A ne) (rn_A nl) (rn_A oe) (rn_A ol) (rn_A fl) (rn_A pc) (rn_A ph) (rn_A pa) (rn_A se) (rn_A ls) (rn_A mo) (rn_A tl) gp fs) → wpY_enter post (nI kn, nI tn, th, rn_T ln, rn_A op, rn_A fm, rn_A tt, rn_A le, rn_A ln, rn_A li, rn_A rk, rn_A we, rn_A ca, rn_A mk, rn_A fa, rn_A tp, rn_A ac, rn_A sz, rn_A dw, rn_A st, rn_A ty, rn_A ed, rn_A la, rn_A fr, rn_A sp, rn_A go, rn_A nz, rn_A tk, rn_C ch, rn_A en, rn_A nw, rn_A gr, rn_A cr, rn_A ne, rn_A nl, rn_A oe, rn_A ol, rn_A fl, rn_A pc, rn_A ph, rn_A pa, rn_A se, rn_A ls, rn_A mo, rn_A tl, gp, fs) (nI e) := by
    intro post kn fa gp fs th hW h
    unfold wpY_enter
    refine ry_fw _ rfl he (rI_st I.1) (rI_ed I.1) (rI_tk I.1) ?_
    rw [hfw]
    refine br_t (nI_pos' (n := c) (by omega)) (ry_nxo _ rfl I.1 hW hc (fun kn fa hW' => ⟨ic, ?_⟩))
    obtain ⟨h0, hl⟩ := h kn fa hW'
    have gr1 : rn_A go (rn_y (c + 1)).toNatClampNeg = nI (go c) := rn_rA (by omega)
    rw [gr1]
    refine ek_f (rn_e rfl rfl (by omega) (by omega)) (fun k => ?_) (fun k => ?_)
    · refine hl 0 (by omega) ?_
      rcases hs with z | z | z | z
      · exact absurd (by omega) z.2.1
      · omega
      · exact absurd (by omega) z.1
      · exact absurd (by omega) z.1
    · refine ek_f (rn_c0 (by omega)) (fun k2 => ?_) (fun k2 => h0 ?_)
      · refine ry_ld _ rfl (l := 0) rfl (rn_cs k2) I.1.1 he (by omega) (by omega) (rb_b (fun k3 => ?_) (fun k3 => ?_))
        · refine hl 1 (by omega) ?_
          rcases hs with z | z | z | z
          · omega
          · exact absurd (by omega) k
          · rw [hed] at z; exact absurd z.2.2.1 k3
          · omega
        · refine hl 0 (by omega) ?_
          rcases hs with z | z | z | z
          · omega
          · exact absurd (by omega) k
          · omega
          · rw [hed] at z; exact absurd k3 z.2.2.1
      · rcases hs with z | z | z | z
        · exact z.1
        · exact absurd (by omega) k
        · omega
        · omega
  rcases Nat.eq_zero_or_pos s with s0 | s0
  · refine ⟨ca, st, fr, sp, en, ps, la, cr, tl, I, fun post h => ?_, fun post kn fa gp fs th hW h => headY post kn fa gp fs th hW (fun kn fa hW' => ⟨fun _ => h kn fa hW', fun l _ hl => by omega⟩)⟩
    unfold wpX_letIn
    refine rx_se _ rfl I.1 hc (by rw [hed]; exact hle) hs ?_
    rw [s0]
    exact br_t rfl h
  · obtain ⟨l, hl1, hl2, hls⟩ : ∃ l, l ≤ 1 ∧ l < ln e ∧ s = 2 * e + l + 1 := by
      have hs' := hs
      unfold rq_se at hs'
      rw [hed] at hs'
      rcases hs' with z | z | z | z
      · omega
      · exact ⟨0, by omega, hle, by omega⟩
      · exact ⟨0, by omega, hle, by omega⟩
      · exact ⟨1, by omega, by omega, by omega⟩
    obtain ⟨m1, m2⟩ := rI_nr I.1 e l 0 hl1
    rw [← hls] at m1 m2
    generalize hm : (rd_nr ps fr) s 0 32 = m at *
    have uniq : ∀ l', s = 2 * e + l' + 1 → l' = l := fun l' h => by omega
    -- whether it goes in
    rcases Classical.em ((¬ ∃ d, d < 32 ∧ pg d = s) ∧ (m = 0 ∨ sz (ty c) + sz (ty (m - 1)) + 1 ≤ fr (m - 1))) with E | E
    · have ps0 := ((rI_p I.1 hc).2.2.2.2.1 (by omega)).1
      have Sf := rq_enterS (c := c) (zs := fun x => sz (ty x)) I.1.1 I.2 hl1 hle hc ps0 (fun d hd k => E.1 ⟨d, hd, by rw [hls]; exact k⟩) ⟨S.2.2.2.2.1, S.2.2.2.2.2.1⟩ (fun a ha => by
        rw [← hls, hm] at ha
        rcases E.2 with z | z
        · omega
        · rw [ha] at z; exact z)
      have Cc := rq_enterC (l := l) (z := sz (ty c)) I.1.2.1 hc h1 (by rw [hed]; exact hl2) hl1 S.2.2.2.2.2.1
      rw [hed] at Cc
      obtain ⟨⟨a1, a2, a3, a4, a5, a6, a7, a8⟩, _⟩ := I
      refine ⟨ru_p ca e (ca e + 1), ru_p st c 2, ru_p fr c (sz (ty c)), ru_p sp c 0, ru_p en c N, ru_p ps c (2 * e + l + 1), ru_p la c l, ru_p cr c 0, ru_p tl 1 (tl 1 + 1), ⟨⟨a1, Cc, a3, a4, a5, by rw [ru_n (by omega)]; exact a6, a7, a8⟩, Sf⟩, fun post h => ?_, fun post kn fa gp fs th hW h => headY post kn fa gp fs th hW (fun kn fa hW' => ⟨fun z => by omega, fun l' hl' hl'' => ?_⟩)⟩
      · unfold wpX_letIn
        have J : (rq_L ln fm tt le li rk we op mk wd wn pc ph pa pe pt se ls mo tp ac sz dw st ty ed fr sp go tk en ch ps pg cf ct la gr cr ne nl oe ol fl tl tn N) := ⟨a1, a2, a3, a4, a5, a6, a7, a8⟩
        refine rx_se _ rfl J hc (by rw [hed]; exact hle) hs ?_
        have es : rn_c s = nI (2 * e + l) := by rw [hls]; rfl
        rw [es]
        have s63 : wX_letIn_63 post (nI c) (nI (2 * e + l)) (nI (sz (ty c))) (nI tn) (rn_A ln) (rn_A fm) (rn_A tt) (rn_A le) (rn_A li) (rn_A rk) (rn_A we) (rn_A op) (rn_A ca) (rn_A mk) (rn_B wd) (rn_B wn) (rn_A pc) (rn_A ph) (rn_A pa) (rn_A pe) (rn_A pt) (rn_A tp) (rn_A ac) (rn_A sz) (rn_A dw) (rn_A st) (rn_A ty) (rn_A ed) (rn_B ps) (rn_A fr) (rn_A sp) (rn_A go) (rn_A nz) (rn_B pg) (rn_B cf) (rn_B ct) (rn_A tk) (rn_A en) (rn_B ch) (rn_A nw) (rn_A tl) := by
          have ee : rn_A ed (nI c).toNatClampNeg = nI e := by rw [rn_rA (by omega), hed]
          unfold wX_letIn_63
          rw [ee]
          refine ⟨ic, nm_r (rn_uA (x := 2) (by omega)) ⟨ic, nm_r (rn_uB (x := 2 * e + l + 1) (by omega)) ⟨ic, nm_r (rn_uA (by omega)) ⟨ic, nm_r (rn_uA (x := 0) (by omega)) ⟨ic, nm_r (e' := rn_A (ru_p en c N)) ?_ ⟨ic, vp_in_nI he (by omega), vp_in_nI he (by omega), nm_r (e' := rn_A (ru_p ca e (ca e + 1))) ?_ (nm_r (rn_u3 1) h)⟩⟩⟩⟩⟩⟩
          · rw [show rn_A tl 0 = nI (tl 0) from rfl, a6]; exact rn_uA (by omega)
          · rw [rn_rA (by omega), nI_1]; exact rn_uA (by omega)
        refine br_f (nI_pos (n := 2 * e + l) (by omega) |> fun k w => k (by rw [w]; decide)) (rx_gt _ rfl (by omega) (rI_pg J) (rb_b (fun _ => rx_sz _ rfl hc hT (rx_nb _ rfl (p := 0) rfl (by omega) (by omega) (rI_ps J) (rI_fr J) ?_)) (fun k => absurd (by rw [← hls] at k; exact k) E.1)))
        rw [← hls, hm]
        refine ek_f (rn_c2 (by omega)) (fun _ => s63) (fun k => ⟨rn_ic (by omega) m1 (by omega), rx_sz _ (rn_cs (by omega)) (by omega) hT ?_⟩)
        have D := rI_c J (m - 1)
        have U := rI_y J (m - 1)
        have v : rn_A fr (rn_c m).toNatClampNeg - nI (sz (ty (m - 1))) - 1 = ri_z ((fr (m - 1) : Int) - sz (ty (m - 1)) - 1) := by rw [rn_Ac (by omega) (by omega), ri_n, ri_n, ri_sub, show (1 : Int32) = ri_z 1 from ri_n 1, ri_sub]
        exact ek_f (ri_l (ri_n _) v (by omega) (by omega)) (fun _ => s63) (fun k2 => by omega)
      · have := uniq l' hl''
        subst this
        have J : (rq_L ln fm tt le li rk we op mk wd wn pc ph pa pe pt se ls mo tp ac sz dw st ty ed fr sp go tk en ch ps pg cf ct la gr cr ne nl oe ol fl tl tn N) := ⟨a1, a2, a3, a4, a5, a6, a7, a8⟩
        have s98 : wY_enter_98 post (nI e) (nI c) (nI l') (nI kn) (nI tn) th (rn_T ln) (rn_A op) (rn_A fm) (rn_A tt) (rn_A le) (rn_A ln) (rn_A li) (rn_A rk) (rn_A we) (rn_A ca) (rn_A mk) (rn_A fa) (rn_A tp) (rn_A ac) (rn_A sz) (rn_A dw) (rn_A st) (rn_A ty) (rn_A ed) (rn_A la) (rn_A fr) (rn_A sp) (rn_A go) (rn_A nz) (rn_A tk) (rn_C ch) (rn_A en) (rn_A nw) (rn_A gr) (rn_A cr) (rn_A ne) (rn_A nl) (rn_A oe) (rn_A ol) (rn_A fl) (rn_A pc) (rn_A ph) (rn_A pa) (rn_A se) (rn_A ls) (rn_A mo) (rn_A tl) gp fs := by
          unfold wY_enter_98
          rw [rn_vf]
          refine ⟨ic, nm_r (rn_uA (x := 2) (by omega)) ⟨ic, nm_r (rn_uA (by omega)) (ry_sz _ rfl hc hT ⟨ic, nm_r (rn_uA (by omega)) ⟨ic, nm_r (rn_uA (x := 0) (by omega)) ⟨ic, nm_r (e' := rn_A (ru_p en c N)) ?_ ⟨ic, nm_r (rn_uA (x := 0) (by omega)) ⟨vp_in_nI he (by omega), vp_in_nI he (by omega), nm_r (e' := rn_A (ru_p ca e (ca e + 1))) ?_ (nm_r (rn_u3 1) (h kn fa hW'))⟩⟩⟩⟩⟩)⟩⟩
          · rw [show rn_A tl 0 = nI (tl 0) from rfl, a6]; exact rn_uA (by omega)
          · rw [rn_rA (by omega), nI_1]; exact rn_uA (by omega)
        unfold wY_enter_48
        refine ry_ab _ rfl rfl (p := 0) rfl (by omega) hl1 (by omega) (rI_on J) (rI_fr J) (ry_gt _ rfl rfl (by omega) hl1 (rI_gd J) (rb_b (fun _ => ?_) (fun k => absurd (by rw [← hls] at k; exact k) E.1)))
        rw [← hls, hm]
        refine ek_f (rn_yn (by omega)) (fun _ => s98) (fun k => ⟨rn_iy (by omega) m1 (by omega), ry_sz _ (rn_ys (by omega)) (by omega) hT (ry_sz _ rfl hc hT ?_)⟩)
        have D := rI_c J (m - 1)
        have U := rI_y J (m - 1)
        have v : rn_A fr (rn_y m).toNatClampNeg - nI (sz (ty (m - 1))) - 1 = ri_z ((fr (m - 1) : Int) - sz (ty (m - 1)) - 1) := by rw [rn_Ay (by omega) (by omega), ri_n, ri_n, ri_sub, show (1 : Int32) = ri_z 1 from ri_n 1, ri_sub]
        exact ek_f (ri_l (ri_n _) v (by omega) (by omega)) (fun _ => s98) (fun k2 => by omega)
    · have J := I.1
      have no : ∀ {Q : Prop}, (¬ ∃ d, d < 32 ∧ pg d = s) → ¬ m = 0 → sz (ty c) + sz (ty (m - 1)) + 1 ≤ fr (m - 1) → Q := fun a _ b => absurd ⟨a, Or.inr b⟩ E
      refine ⟨ca, st, fr, sp, en, ps, la, cr, tl, I, fun post h => ?_, fun post kn fa gp fs th hW h => headY post kn fa gp fs th hW (fun kn fa hW' => ⟨fun z => by omega, fun l' hl' hl'' => ?_⟩)⟩
      · unfold wpX_letIn
        refine rx_se _ rfl J hc (by rw [hed]; exact hle) hs ?_
        have es : rn_c s = nI (2 * e + l) := by rw [hls]; rfl
        rw [es]
        refine br_f (nI_pos (n := 2 * e + l) (by omega) |> fun k w => k (by rw [w]; decide)) (rx_gt _ rfl (by omega) (rI_pg J) (rb_b (fun k => rx_sz _ rfl hc hT (rx_nb _ rfl (p := 0) rfl (by omega) (by omega) (rI_ps J) (rI_fr J) ?_)) (fun _ => h)))
        rw [← hls] at k
        rw [← hls, hm]
        refine ek_f (rn_c2 (by omega)) (fun k2 => absurd ⟨k, Or.inl k2⟩ E) (fun k2 => ⟨rn_ic (by omega) m1 (by omega), rx_sz _ (rn_cs (by omega)) (by omega) hT ?_⟩)
        have D := rI_c J (m - 1)
        have U := rI_y J (m - 1)
        have v : rn_A fr (rn_c m).toNatClampNeg - nI (sz (ty (m - 1))) - 1 = ri_z ((fr (m - 1) : Int) - sz (ty (m - 1)) - 1) := by rw [rn_Ac (by omega) (by omega), ri_n, ri_n, ri_sub, show (1 : Int32) = ri_z 1 from ri_n 1, ri_sub]
        exact ek_f (ri_l (ri_n _) v (by omega) (by omega)) (fun k3 => no k k2 (by omega)) (fun _ => h)
      · have := uniq l' hl''
        subst this
        unfold wY_enter_48
        refine ry_ab _ rfl rfl (p := 0) rfl (by omega) hl1 (by omega) (rI_on J) (rI_fr J) (ry_gt _ rfl rfl (by omega) hl1 (rI_gd J) (rb_b (fun k => ?_) (fun _ => h kn fa hW')))
        rw [← hls] at k
        rw [← hls, hm]
        refine ek_f (rn_yn (by omega)) (fun k2 => absurd ⟨k, Or.inl k2⟩ E) (fun k2 => ⟨rn_iy (by omega) m1 (by omega), ry_sz _ (rn_ys (by omega)) (by omega) hT (ry_sz _ rfl hc hT ?_)⟩)
        have D := rI_c J (m - 1)
        have U := rI_y J (m - 1)
        have v : rn_A fr (rn_y m).toNatClampNeg - nI (sz (ty (m - 1))) - 1 = ri_z ((fr (m - 1) : Int) - sz (ty (m - 1)) - 1) := by rw [rn_Ay (by omega) (by omega), ri_n, ri_n, ri_sub, show (1 : Int32) = ri_z 1 from ri_n 1, ri_sub]
        exact ek_f (ri_l (ri_n _) v (by omega) (by omega)) (fun k3 => no k k2 (by omega)) (fun _ => h kn fa hW')
theorem rl_ena : ∀ d e, e + d = 16 → ∀ ca st fr sp en ps la cr tl : Nat → Nat, (rq_I ln fm tt le li rk we op mk wd wn pc ph pa pe pt se ls mo tp ac sz dw st ty ed fr sp go tk en ch ps pg cf ct la gr cr ne nl oe ol fl tl tn N) → ∃ ca' st' fr' sp' en' ps' la' cr' tl' : Nat → Nat, (rq_I ln fm tt le li rk we op mk wd wn pc ph pa pe pt se ls mo tp ac sz dw st' ty ed fr' sp' go tk en' ch ps' pg cf ct la' gr cr' ne nl oe ol fl tl' tn N) ∧
    (∀ post, post (nI tn, rn_A ln, rn_A fm, rn_A tt, rn_A le, rn_A li, rn_A rk, rn_A we, rn_A op, rn_A ca', rn_A mk, rn_B wd, rn_B wn, rn_A pc, rn_A ph, rn_A pa, rn_A pe, rn_A pt, rn_A tp, rn_A ac, rn_A sz, rn_A dw, rn_A st', rn_A ty, rn_A ed, rn_B ps', rn_A fr', rn_A sp', rn_A go, rn_A nz, rn_B pg, rn_B cf, rn_B ct, rn_A tk, rn_A en', rn_B ch, rn_A nw, rn_A tl') → wX_letCarsIn_2 post (d + 1) (nI e) (nI tn) (rn_A ln) (rn_A fm) (rn_A tt) (rn_A le) (rn_A li) (rn_A rk) (rn_A we) (rn_A op) (rn_A ca) (rn_A mk) (rn_B wd) (rn_B wn) (rn_A pc) (rn_A ph) (rn_A pa) (rn_A pe) (rn_A pt) (rn_A tp) (rn_A ac) (rn_A sz) (rn_A dw) (rn_A st) (rn_A ty) (rn_A ed) (rn_B ps) (rn_A fr) (rn_A sp) (rn_A go) (rn_A nz) (rn_B pg) (rn_B cf) (rn_B ct) (rn_A tk) (rn_A en) (rn_B ch) (rn_A nw) (rn_A tl)) ∧
    (∀ post kn fa gp fs th, (rq_WY ln fm tt le li we op mk fa kn) → (∀ kn fa, (rq_WY ln fm tt le li we op mk fa kn) → post (nI kn, nI tn, th, rn_T ln, rn_A op, rn_A fm, rn_A tt, rn_A le, rn_A ln, rn_A li, rn_A rk, rn_A we, rn_A ca', rn_A mk, rn_A fa, rn_A tp, rn_A ac, rn_A sz, rn_A dw, rn_A st', rn_A ty, rn_A ed, rn_A la', rn_A fr', rn_A sp', rn_A go, rn_A nz, rn_A tk, rn_C ch, rn_A en', rn_A nw, rn_A gr, rn_A cr', rn_A ne, rn_A nl, rn_A oe, rn_A ol, rn_A fl, rn_A pc, rn_A ph, rn_A pa, rn_A se, rn_A ls, rn_A mo, rn_A tl', gp, fs)) → wY_stepOn_155 post (d + 1) (nI e) (nI kn) (nI tn) th (rn_T ln) (rn_A op) (rn_A fm) (rn_A tt) (rn_A le) (rn_A ln) (rn_A li) (rn_A rk) (rn_A we) (rn_A ca) (rn_A mk) (rn_A fa) (rn_A tp) (rn_A ac) (rn_A sz) (rn_A dw) (rn_A st) (rn_A ty) (rn_A ed) (rn_A la) (rn_A fr) (rn_A sp) (rn_A go) (rn_A nz) (rn_A tk) (rn_C ch) (rn_A en) (rn_A nw) (rn_A gr) (rn_A cr) (rn_A ne) (rn_A nl) (rn_A oe) (rn_A ol) (rn_A fl) (rn_A pc) (rn_A ph) (rn_A pa) (rn_A se) (rn_A ls) (rn_A mo) (rn_A tl) gp fs) := by
  intro d
  induction d with
  | zero =>
    intro e he ca st fr sp en ps la cr tl I
    have e16 : e = 16 := by omega
    subst e16
    exact ⟨ca, st, fr, sp, en, ps, la, cr, tl, I, fun post h => br_t (by decide) h, fun post kn fa gp fs th hW h => br_t (by decide) (h kn fa hW)⟩
  | succ d ih =>
    intro e he ca st fr sp en ps la cr tl I
    have B := rI_e I.1 e
    have e6 : e < 16 := by omega
    rcases Nat.eq_zero_or_pos (op e) with q | q
    · obtain ⟨ca', st', fr', sp', en', ps', la', cr', tl', I', x, y⟩ := ih (e + 1) (by omega) ca st fr sp en ps la cr tl I
      refine ⟨ca', st', fr', sp', en', ps', la', cr', tl', I', fun post h => br_f (nI_ge (b := 16) e6 (by decide)) ⟨pk_in e 16 e6, ?_⟩, fun post kn fa gp fs th hW h => br_f (nI_ge (b := 16) e6 (by decide)) ⟨pk_in e 16 e6, br_c (fun _ => nm_r (nI_1 e) (y post kn fa gp fs th hW h)) (fun _ => ⟨pk_in e 16 e6, ?_⟩)⟩⟩
      · exact ek_f (rn_e (rn_rA (by omega)) (b := 0) rfl (by omega) (by omega)) (fun _ => nm_r (nI_1 e) (x post h)) (fun k => absurd q k)
      · exact ek_f (rn_e (rn_rA (by omega)) (b := 0) rfl (by omega) (by omega)) (fun _ => nm_r (nI_1 e) (y post kn fa gp fs th hW h)) (fun k => absurd q k)
    · have hle : 0 < ln e := by
        rcases Nat.eq_zero_or_pos (ln e) with z | z
        · have := I.1.1.2.2 e z; omega
        · exact z
      have L := rd_fwL (st := st) (ed := ed) (tk := tk) (e := e) 32
      rcases rd_fwS (st := st) (ed := ed) (tk := tk) (e := e) 32 with f | ⟨c, f1, c1, c2, c3⟩
      · obtain ⟨ca', st', fr', sp', en', ps', la', cr', tl', I', x, y⟩ := ih (e + 1) (by omega) ca st fr sp en ps la cr tl I
        refine ⟨ca', st', fr', sp', en', ps', la', cr', tl', I', fun post h => br_f (nI_ge (b := 16) e6 (by decide)) ⟨pk_in e 16 e6, ?_⟩, fun post kn fa gp fs th hW h => br_f (nI_ge (b := 16) e6 (by decide)) ⟨pk_in e 16 e6, ?_⟩⟩
        · refine ek_f (rn_e (rn_rA (by omega)) (b := 0) rfl (by omega) (by omega)) (fun k => by omega) (fun _ => rx_fw _ rfl e6 (rI_st I.1) (rI_ed I.1) (rI_tk I.1) ?_)
          rw [f]
          exact br_t rfl (nm_r (nI_1 e) (x post h))
        · refine ek_f (rn_TT (by omega)) (fun k => by omega) (fun _ => ⟨pk_in e 16 e6, ek_f (rn_e (rn_rA (by omega)) (b := 0) rfl (by omega) (by omega)) (fun k => by omega) (fun _ => ?_)⟩)
          unfold wpY_enter
          refine ry_fw _ rfl e6 (rI_st I.1) (rI_ed I.1) (rI_tk I.1) ?_
          rw [f]
          exact br_f (by decide) (nm_r (nI_1 e) (y post kn fa gp fs th hW h))
      · obtain ⟨ca1, st1, fr1, sp1, en1, ps1, la1, cr1, tl1, I1, x1, y1⟩ := rl_let (ca := ca) I e6 hle c1 c2 c3 f1
        obtain ⟨ca', st', fr', sp', en', ps', la', cr', tl', I', x, y⟩ := ih (e + 1) (by omega) ca1 st1 fr1 sp1 en1 ps1 la1 cr1 tl1 I1
        refine ⟨ca', st', fr', sp', en', ps', la', cr', tl', I', fun post h => br_f (nI_ge (b := 16) e6 (by decide)) ⟨pk_in e 16 e6, ?_⟩, fun post kn fa gp fs th hW h => br_f (nI_ge (b := 16) e6 (by decide)) ⟨pk_in e 16 e6, ?_⟩⟩
        · refine ek_f (rn_e (rn_rA (by omega)) (b := 0) rfl (by omega) (by omega)) (fun k => by omega) (fun _ => rx_fw _ rfl e6 (rI_st I.1) (rI_ed I.1) (rI_tk I.1) ?_)
          rw [f1]
          exact br_f (fun w => by have := (rn_c2 (n := c + 1) (by omega)).mp w; omega) (x1 _ (nm_r (nI_1 e) (x post h)))
        · refine ek_f (rn_TT (by omega)) (fun k => by omega) (fun _ => ⟨pk_in e 16 e6, ek_f (rn_e (rn_rA (by omega)) (b := 0) rfl (by omega) (by omega)) (fun k => by omega) (fun _ => ?_)⟩)
          exact y1 _ kn fa gp fs th hW (fun kn fa hW' => nm_r (nI_1 e) (y post kn fa gp fs th hW' h))
end
end
section
/-! LIGHTS -/
section
variable {ln fm tt le li rk we op ca mk wd wn fa pc ph pa pe pt se ls mo tp ac sz dw st ty ed fr sp go nz tk en ch nw ps pg cf ct la gr cr ne nl oe ol fl tl : Nat → Nat} {tn kn N : Nat} {th : Int32} {gp fs : Nat → Int32}
/-- a car that needs the phase at hand -/
def rq_nd (tt le st ed fr pg se : Nat → Nat) (j k c : Nat) : Prop := st c = 2 ∧ tt (ed c) = j ∧ rd_bt (se k) (ed c) ∧ pg c = 0 ∧ le (ed c) ≤ fr c + 30
theorem rx_pn (post : Int32 → Prop) {j : Nat} {x : Int32} (hx : x = nI j) (I : (rq_L ln fm tt le li rk we op mk wd wn pc ph pa pe pt se ls mo tp ac sz dw st ty ed fr sp go tk en ch ps pg cf ct la gr cr ne nl oe ol fl tl tn N)) (hj : j < 8) (hp : 0 < pc j) (h : post (rb_ (∃ c, c < 32 ∧ rq_nd tt le st ed fr pg se j (4 * j + ph j) c))) : wpX_isPhaseNeeded post (nI tn, rn_A ln, rn_A fm, rn_A tt, rn_A le, rn_A li, rn_A rk, rn_A we, rn_A op, rn_A ca, rn_A mk, rn_B wd, rn_B wn, rn_A pc, rn_A ph, rn_A pa, rn_A pe, rn_A pt, rn_A tp, rn_A ac, rn_A sz, rn_A dw, rn_A st, rn_A ty, rn_A ed, rn_B ps, rn_A fr, rn_A sp, rn_A go, rn_A nz, rn_B pg, rn_B cf, rn_B ct, rn_A tk, rn_A en, rn_B ch, rn_A nw, rn_A tl) x := by
  subst hx
  obtain ⟨p1, p2, p3, p4, p5⟩ := I.2.2.1 j hj
  have q := p3 hp
  obtain ⟨r1, r2, r3, r4, r5⟩ := p5 _ q
  refine ⟨pk_in j 8 hj, ?_⟩
  rw [rn_rA (by omega), show (4 : Int32) * nI j = nI (4 * j) from pk_mul 4 _, nI_add]
  refine ⟨vp_in_nI (by omega) (by omega), nm_r (rn_rA (by omega)) ?_⟩
  rw [r1]
  refine loop_0 (fun n i (_ : Unit) => wX_isPhaseNeeded_18 post (nI j) (nI (se (4 * j + ph j))) (nI tn) (rn_A ln) (rn_A fm) (rn_A tt) (rn_A le) (rn_A li) (rn_A rk) (rn_A we) (rn_A op) (rn_A ca) (rn_A mk) (rn_B wd) (rn_B wn) (rn_A pc) (rn_A ph) (rn_A pa) (rn_A pe) (rn_A pt) (rn_A tp) (rn_A ac) (rn_A sz) (rn_A dw) (rn_A st) (rn_A ty) (rn_A ed) (rn_B ps) (rn_A fr) (rn_A sp) (rn_A go) (rn_A nz) (rn_B pg) (rn_B cf) (rn_B ct) (rn_A tk) (rn_A en) (rn_B ch) (rn_A nw) (rn_A tl) n (nI i)) (fun i _ => ∀ c, c < i → ¬ rq_nd tt le st ed fr pg se j (4 * j + ph j) c) 32 () (fun c hc => absurd hc (Nat.not_lt_zero c)) ?_ ?_
  · intro n _ e
    exact br_t (by decide) (rb_p0 h (fun ⟨c, hc, k⟩ => e c hc k))
  · intro n i _ hi e ih
    have A := rI_c I i
    have B := rI_e I (ed i)
    have P := rI_pg I i hi
    have skip : ¬ rq_nd tt le st ed fr pg se j (4 * j + ph j) i → ∀ y, y = nI i + 1 → wX_isPhaseNeeded_18 post (nI j) (nI (se (4 * j + ph j))) (nI tn) (rn_A ln) (rn_A fm) (rn_A tt) (rn_A le) (rn_A li) (rn_A rk) (rn_A we) (rn_A op) (rn_A ca) (rn_A mk) (rn_B wd) (rn_B wn) (rn_A pc) (rn_A ph) (rn_A pa) (rn_A pe) (rn_A pt) (rn_A tp) (rn_A ac) (rn_A sz) (rn_A dw) (rn_A st) (rn_A ty) (rn_A ed) (rn_B ps) (rn_A fr) (rn_A sp) (rn_A go) (rn_A nz) (rn_B pg) (rn_B cf) (rn_B ct) (rn_A tk) (rn_A en) (rn_B ch) (rn_A nw) (rn_A tl) n y := fun w => nm_r (nI_1 i) (ih () (lt_s e w))
    refine pk_le 32 i (fun z => by omega) (fun _ => ⟨pk_in i 32 hi, nm_r (rn_rA (by omega)) ⟨pk_in i 32 hi, ?_⟩⟩)
    refine ek_f (rn_e (rn_rA (by omega)) (b := 2) rfl (by omega) (by omega)) (fun e1 => ⟨vp_in_nI (by omega) (by omega), ?_⟩) (fun e1 => br_t rfl (skip (fun w => e1 w.1)))
    refine ek_f (rn_e (rn_rA (by omega)) (b := j) rfl (by omega) (by omega)) (fun e2 => ?_) (fun e2 => br_t rfl (skip (fun w => e2 w.2.1)))
    refine ek_f (rd_bt1 (by omega) (by omega)) (fun e3 => br_f (by decide) ⟨pk_in i 32 hi, ?_⟩) (fun e3 => br_t rfl (skip (fun w => e3 w.2.2.1)))
    refine ek_f (rn_2 (rn_rB (by omega)) (b := 0) rfl (by omega) (by omega)) (fun e4 => ⟨pk_in i 32 hi, vp_in_nI (by omega) (by omega), ?_⟩) (fun e4 => skip (fun w => e4 w.2.2.2.1))
    refine ek_f (ri_t (a := (fr i : Int)) (b := (le (ed i) : Int) - 30) (by rw [rn_rA (by omega), ri_n]) (by rw [rn_rA (by omega), ri_n, show (30 : Int32) = ri_z 30 from ri_n 30, ri_sub]) (by omega) (by omega)) (fun e5 => skip (fun w => by have := w.2.2.2.2; omega)) (fun e5 => rb_p1 h ⟨i, hi, e1, e2, e3, e4, by omega⟩)
/-- one light, on both sides -/
theorem rl_lt {j : Nat} (I : (rq_I ln fm tt le li rk we op mk wd wn pc ph pa pe pt se ls mo tp ac sz dw st ty ed fr sp go tk en ch ps pg cf ct la gr cr ne nl oe ol fl tl tn N)) (hj : j < 8) (hp : 0 < pc j) (hN : pa j + 1 ≤ N) : ∃ ph' pa' : Nat → Nat, (rq_I ln fm tt le li rk we op mk wd wn pc ph' pa' pe pt se ls mo tp ac sz dw st ty ed fr sp go tk en ch ps pg cf ct la gr cr ne nl oe ol fl tl tn N) ∧ (∀ i, i ≠ j → pa' i = pa i) ∧
    (∀ post (J : Int32 → (Nat → Int32) → (Nat → Int32) → (Nat → Int32) → (Nat → Int32) → (Nat → Int32) → (Nat → Int32) → (Nat → Int32) → (Nat → Int32) → (Nat → Int32) → (Nat → Int32) → (Nat → Int32) → (Nat → Int32) → (Nat → Int32) → (Nat → Int32) → (Nat → Int32) → (Nat → Int32) → (Nat → Int32) → (Nat → Int32) → (Nat → Int32) → (Nat → Int32) → (Nat → Int32) → (Nat → Int32) → (Nat → Int32) → (Nat → Int32) → (Nat → Int32) → (Nat → Int32) → (Nat → Int32) → (Nat → Int32) → (Nat → Int32) → (Nat → Int32) → (Nat → Int32) → (Nat → Int32) → (Nat → Int32) → (Nat → Int32) → (Nat → Int32) → (Nat → Int32) → (Nat → Int32) → Prop), J (nI (j + 1)) (rn_A ln) (rn_A fm) (rn_A tt) (rn_A le) (rn_A li) (rn_A rk) (rn_A we) (rn_A op) (rn_A ca) (rn_A mk) (rn_B wd) (rn_B wn) (rn_A pc) (rn_A ph') (rn_A pa') (rn_A pe) (rn_A pt) (rn_A tp) (rn_A ac) (rn_A sz) (rn_A dw) (rn_A st) (rn_A ty) (rn_A ed) (rn_B ps) (rn_A fr) (rn_A sp) (rn_A go) (rn_A nz) (rn_B pg) (rn_B cf) (rn_B ct) (rn_A tk) (rn_A en) (rn_B ch) (rn_A nw) (rn_A tl) → vp_in (nI j) 8 ∧ (vp_in (nI j) 8 ∧ ∀ a, a = upd (rn_A pa) (nI j).toNatClampNeg (rn_A pa (nI j).toNatClampNeg + 1) → (vp_in (nI j) 8 ∧ (vp_in (4 * nI j + rn_A ph (nI j).toNatClampNeg) 32 ∧ ∀ t, t = rn_A pt (4 * nI j + rn_A ph (nI j).toNatClampNeg).toNatClampNeg → (vp_in (nI j) 8 ∧ (¬ (100 : Int32) = 0 ∧ ((a (nI j).toNatClampNeg < t / 100 → wX_turnLights_61 post J (nI j) t 0 (nI tn) (rn_A ln) (rn_A fm) (rn_A tt) (rn_A le) (rn_A li) (rn_A rk) (rn_A we) (rn_A op) (rn_A ca) (rn_A mk) (rn_B wd) (rn_B wn) (rn_A pc) (rn_A ph) a (rn_A pe) (rn_A pt) (rn_A tp) (rn_A ac) (rn_A sz) (rn_A dw) (rn_A st) (rn_A ty) (rn_A ed) (rn_B ps) (rn_A fr) (rn_A sp) (rn_A go) (rn_A nz) (rn_B pg) (rn_B cf) (rn_B ct) (rn_A tk) (rn_A en) (rn_B ch) (rn_A nw) (rn_A tl)) ∧ (¬ a (nI j).toNatClampNeg < t / 100 → wX_turnLights_61 post J (nI j) t 1 (nI tn) (rn_A ln) (rn_A fm) (rn_A tt) (rn_A le) (rn_A li) (rn_A rk) (rn_A we) (rn_A op) (rn_A ca) (rn_A mk) (rn_B wd) (rn_B wn) (rn_A pc) (rn_A ph) a (rn_A pe) (rn_A pt) (rn_A tp) (rn_A ac) (rn_A sz) (rn_A dw) (rn_A st) (rn_A ty) (rn_A ed) (rn_B ps) (rn_A fr) (rn_A sp) (rn_A go) (rn_A nz) (rn_B pg) (rn_B cf) (rn_B ct) (rn_A tk) (rn_A en) (rn_B ch) (rn_A nw) (rn_A tl)))))))) ) ∧
    (∀ post kn fa gp fs th, post (nI kn, nI tn, th, rn_T ln, rn_A op, rn_A fm, rn_A tt, rn_A le, rn_A ln, rn_A li, rn_A rk, rn_A we, rn_A ca, rn_A mk, rn_A fa, rn_A tp, rn_A ac, rn_A sz, rn_A dw, rn_A st, rn_A ty, rn_A ed, rn_A la, rn_A fr, rn_A sp, rn_A go, rn_A nz, rn_A tk, rn_C ch, rn_A en, rn_A nw, rn_A gr, rn_A cr, rn_A ne, rn_A nl, rn_A oe, rn_A ol, rn_A fl, rn_A pc, rn_A ph', rn_A pa', rn_A se, rn_A ls, rn_A mo, rn_A tl, gp, fs) → wpY_light post (nI kn, nI tn, th, rn_T ln, rn_A op, rn_A fm, rn_A tt, rn_A le, rn_A ln, rn_A li, rn_A rk, rn_A we, rn_A ca, rn_A mk, rn_A fa, rn_A tp, rn_A ac, rn_A sz, rn_A dw, rn_A st, rn_A ty, rn_A ed, rn_A la, rn_A fr, rn_A sp, rn_A go, rn_A nz, rn_A tk, rn_C ch, rn_A en, rn_A nw, rn_A gr, rn_A cr, rn_A ne, rn_A nl, rn_A oe, rn_A ol, rn_A fl, rn_A pc, rn_A ph, rn_A pa, rn_A se, rn_A ls, rn_A mo, rn_A tl, gp, fs) (nI j)) := by
  obtain ⟨⟨a1, a2, a3, a4, a5, a6, a7, a8⟩, S⟩ := I
  have J0 : (rq_L ln fm tt le li rk we op mk wd wn pc ph pa pe pt se ls mo tp ac sz dw st ty ed fr sp go tk en ch ps pg cf ct la gr cr ne nl oe ol fl tl tn N) := ⟨a1, a2, a3, a4, a5, a6, a7, a8⟩
  obtain ⟨p1, p2, p3, p4, p5⟩ := a3 j hj
  have q := p3 hp
  obtain ⟨r1, r2, r3, r4, r5⟩ := p5 _ q
  have ij : vp_in (nI j) 8 := pk_in j 8 hj
  have hix : (4 : Int32) * nI j + rn_A ph (nI j).toNatClampNeg = nI (4 * j + ph j) := by rw [rn_rA (by omega), show (4 : Int32) * nI j = nI (4 * j) from pk_mul 4 _, nI_add]
  have hag : upd (rn_A pa) (nI j).toNatClampNeg (rn_A pa (nI j).toNatClampNeg + 1) = rn_A (ru_p pa j (pa j + 1)) := by rw [rn_rA (by omega), nI_1]; exact rn_uA (by omega)
  have ag1 : rn_A (ru_p pa j (pa j + 1)) (nI j).toNatClampNeg = nI (pa j + 1) := by rw [rn_rA (by omega), ru_s]
  have mo1 : pt (4 * j + ph j) / 100 = mo (4 * j + ph j) := by omega
  have ls1 : pt (4 * j + ph j) % 100 = ls (4 * j + ph j) := by omega
  -- the relation after the age has grown, and after the next phase
  have PA : ∀ x, x ≤ N → (rq_P pc ph (ru_p pa j x) pe pt se ls mo N) := by
    intro x hx i hi
    obtain ⟨b1, b2, b3, b4, b5⟩ := a3 i hi
    rcases Nat.decEq i j with z | z
    · rw [ru_n z]; exact ⟨b1, b2, b3, b4, b5⟩
    · subst z; rw [ru_s]; exact ⟨b1, fun w => by omega, b3, hx, b5⟩
  have PB : (rq_P pc (ru_p ph j ((ph j + 1) % pc j)) (ru_p (ru_p pa j (pa j + 1)) j 0) pe pt se ls mo N) := by
    intro i hi
    obtain ⟨b1, b2, b3, b4, b5⟩ := a3 i hi
    rcases Nat.decEq i j with z | z
    · rw [ru_n z, ru_n z, ru_n z]; exact ⟨b1, b2, b3, b4, b5⟩
    · subst z; rw [ru_s, ru_s]; exact ⟨b1, fun w => by omega, fun _ => Nat.mod_lt _ hp, by omega, b5⟩
  have x87 : ∀ (post : SX → Prop) (J : Int32 → (Nat → Int32) → (Nat → Int32) → (Nat → Int32) → (Nat → Int32) → (Nat → Int32) → (Nat → Int32) → (Nat → Int32) → (Nat → Int32) → (Nat → Int32) → (Nat → Int32) → (Nat → Int32) → (Nat → Int32) → (Nat → Int32) → (Nat → Int32) → (Nat → Int32) → (Nat → Int32) → (Nat → Int32) → (Nat → Int32) → (Nat → Int32) → (Nat → Int32) → (Nat → Int32) → (Nat → Int32) → (Nat → Int32) → (Nat → Int32) → (Nat → Int32) → (Nat → Int32) → (Nat → Int32) → (Nat → Int32) → (Nat → Int32) → (Nat → Int32) → (Nat → Int32) → (Nat → Int32) → (Nat → Int32) → (Nat → Int32) → (Nat → Int32) → (Nat → Int32) → (Nat → Int32) → Prop), J (nI (j + 1)) (rn_A ln) (rn_A fm) (rn_A tt) (rn_A le) (rn_A li) (rn_A rk) (rn_A we) (rn_A op) (rn_A ca) (rn_A mk) (rn_B wd) (rn_B wn) (rn_A pc) (rn_A (ru_p ph j ((ph j + 1) % pc j))) (rn_A (ru_p (ru_p pa j (pa j + 1)) j 0)) (rn_A pe) (rn_A pt) (rn_A tp) (rn_A ac) (rn_A sz) (rn_A dw) (rn_A st) (rn_A ty) (rn_A ed) (rn_B ps) (rn_A fr) (rn_A sp) (rn_A go) (rn_A nz) (rn_B pg) (rn_B cf) (rn_B ct) (rn_A tk) (rn_A en) (rn_B ch) (rn_A nw) (rn_A tl) → wX_turnLights_87 post J (nI j) (nI tn) (rn_A ln) (rn_A fm) (rn_A tt) (rn_A le) (rn_A li) (rn_A rk) (rn_A we) (rn_A op) (rn_A ca) (rn_A mk) (rn_B wd) (rn_B wn) (rn_A pc) (rn_A ph) (rn_A (ru_p pa j (pa j + 1))) (rn_A pe) (rn_A pt) (rn_A tp) (rn_A ac) (rn_A sz) (rn_A dw) (rn_A st) (rn_A ty) (rn_A ed) (rn_B ps) (rn_A fr) (rn_A sp) (rn_A go) (rn_A nz) (rn_B pg) (rn_B cf) (rn_B ct) (rn_A tk) (rn_A en) (rn_B ch) (rn_A nw) (rn_A tl) := by
    intro post J h
    unfold wX_turnLights_87
    rw [rn_rA (f := ph) (by omega), rn_rA (f := pc) (by omega), nI_1, show nI (ph j + 1) - nI (ph j + 1) / nI (pc j) * nI (pc j) = nI ((ph j + 1) % pc j) from pk_rem (by omega) (by omega) (by omega)]
    exact ⟨ij, ij, nI_ne0 hp (by omega), ij, nm_r (rn_uA (by omega)) ⟨ij, nm_r (rn_uA (x := 0) (by omega)) (nm_r (nI_1 j) h)⟩⟩
  have y158 : ∀ (post : SY → Prop) kn fa gp fs th, post (nI kn, nI tn, th, rn_T ln, rn_A op, rn_A fm, rn_A tt, rn_A le, rn_A ln, rn_A li, rn_A rk, rn_A we, rn_A ca, rn_A mk, rn_A fa, rn_A tp, rn_A ac, rn_A sz, rn_A dw, rn_A st, rn_A ty, rn_A ed, rn_A la, rn_A fr, rn_A sp, rn_A go, rn_A nz, rn_A tk, rn_C ch, rn_A en, rn_A nw, rn_A gr, rn_A cr, rn_A ne, rn_A nl, rn_A oe, rn_A ol, rn_A fl, rn_A pc, rn_A (ru_p ph j ((ph j + 1) % pc j)), rn_A (ru_p (ru_p pa j (pa j + 1)) j 0), rn_A se, rn_A ls, rn_A mo, rn_A tl, gp, fs) → wY_light_158 post (nI j) (nI kn) (nI tn) th (rn_T ln) (rn_A op) (rn_A fm) (rn_A tt) (rn_A le) (rn_A ln) (rn_A li) (rn_A rk) (rn_A we) (rn_A ca) (rn_A mk) (rn_A fa) (rn_A tp) (rn_A ac) (rn_A sz) (rn_A dw) (rn_A st) (rn_A ty) (rn_A ed) (rn_A la) (rn_A fr) (rn_A sp) (rn_A go) (rn_A nz) (rn_A tk) (rn_C ch) (rn_A en) (rn_A nw) (rn_A gr) (rn_A cr) (rn_A ne) (rn_A nl) (rn_A oe) (rn_A ol) (rn_A fl) (rn_A pc) (rn_A ph) (rn_A (ru_p pa j (pa j + 1))) (rn_A se) (rn_A ls) (rn_A mo) (rn_A tl) gp fs := by
    intro post kn fa gp fs th h
    unfold wY_light_158
    rw [rn_rA (f := ph) (by omega), rn_rA (f := pc) (by omega), nI_1, show nI (ph j + 1) - nI (ph j + 1) / nI (pc j) * nI (pc j) = nI ((ph j + 1) % pc j) from pk_rem (by omega) (by omega) (by omega)]
    exact ⟨ij, ij, nI_ne0 hp (by omega), ij, nm_r (rn_uA (by omega)) ⟨ij, nm_r (rn_uA (x := 0) (by omega)) h⟩⟩
  -- Y's scan
  have yscan : ∀ (post : SY → Prop) kn fa gp fs th, (mo (4 * j + ph j) ≤ pa j + 1 ∨ (ls (4 * j + ph j) ≤ pa j + 1 ∧ ¬ ∃ c, c < 32 ∧ rq_nd tt le st ed fr pg se j (4 * j + ph j) c) → wY_light_158 post (nI j) (nI kn) (nI tn) th (rn_T ln) (rn_A op) (rn_A fm) (rn_A tt) (rn_A le) (rn_A ln) (rn_A li) (rn_A rk) (rn_A we) (rn_A ca) (rn_A mk) (rn_A fa) (rn_A tp) (rn_A ac) (rn_A sz) (rn_A dw) (rn_A st) (rn_A ty) (rn_A ed) (rn_A la) (rn_A fr) (rn_A sp) (rn_A go) (rn_A nz) (rn_A tk) (rn_C ch) (rn_A en) (rn_A nw) (rn_A gr) (rn_A cr) (rn_A ne) (rn_A nl) (rn_A oe) (rn_A ol) (rn_A fl) (rn_A pc) (rn_A ph) (rn_A (ru_p pa j (pa j + 1))) (rn_A se) (rn_A ls) (rn_A mo) (rn_A tl) gp fs) → (¬ (mo (4 * j + ph j) ≤ pa j + 1 ∨ (ls (4 * j + ph j) ≤ pa j + 1 ∧ ¬ ∃ c, c < 32 ∧ rq_nd tt le st ed fr pg se j (4 * j + ph j) c)) → post (nI kn, nI tn, th, rn_T ln, rn_A op, rn_A fm, rn_A tt, rn_A le, rn_A ln, rn_A li, rn_A rk, rn_A we, rn_A ca, rn_A mk, rn_A fa, rn_A tp, rn_A ac, rn_A sz, rn_A dw, rn_A st, rn_A ty, rn_A ed, rn_A la, rn_A fr, rn_A sp, rn_A go, rn_A nz, rn_A tk, rn_C ch, rn_A en, rn_A nw, rn_A gr, rn_A cr, rn_A ne, rn_A nl, rn_A oe, rn_A ol, rn_A fl, rn_A pc, rn_A ph, rn_A (ru_p pa j (pa j + 1)), rn_A se, rn_A ls, rn_A mo, rn_A tl, gp, fs)) → wpY_light post (nI kn, nI tn, th, rn_T ln, rn_A op, rn_A fm, rn_A tt, rn_A le, rn_A ln, rn_A li, rn_A rk, rn_A we, rn_A ca, rn_A mk, rn_A fa, rn_A tp, rn_A ac, rn_A sz, rn_A dw, rn_A st, rn_A ty, rn_A ed, rn_A la, rn_A fr, rn_A sp, rn_A go, rn_A nz, rn_A tk, rn_C ch, rn_A en, rn_A nw, rn_A gr, rn_A cr, rn_A ne, rn_A nl, rn_A oe, rn_A ol, rn_A fl, rn_A pc, rn_A ph, rn_A pa, rn_A se, rn_A ls, rn_A mo, rn_A tl, gp, fs) (nI j) := by
    intro post kn fa gp fs th h1 h0
    refine ⟨ij, ij, nm_r hag ⟨ij, nm_r hix ?_⟩⟩
    refine loop_0 (fun n i (b : Nat) => wY_light_26 post (nI j) (nI (4 * j + ph j)) (nI kn) (nI tn) th (rn_T ln) (rn_A op) (rn_A fm) (rn_A tt) (rn_A le) (rn_A ln) (rn_A li) (rn_A rk) (rn_A we) (rn_A ca) (rn_A mk) (rn_A fa) (rn_A tp) (rn_A ac) (rn_A sz) (rn_A dw) (rn_A st) (rn_A ty) (rn_A ed) (rn_A la) (rn_A fr) (rn_A sp) (rn_A go) (rn_A nz) (rn_A tk) (rn_C ch) (rn_A en) (rn_A nw) (rn_A gr) (rn_A cr) (rn_A ne) (rn_A nl) (rn_A oe) (rn_A ol) (rn_A fl) (rn_A pc) (rn_A ph) (rn_A (ru_p pa j (pa j + 1))) (rn_A se) (rn_A ls) (rn_A mo) (rn_A tl) gp fs n (nI b) (nI i)) (fun i b => b ≤ 1 ∧ (b = 0 ↔ ∃ c, c < i ∧ rq_nd tt le st ed fr pg se j (4 * j + ph j) c)) 32 1 ⟨by omega, fun z => by omega, fun ⟨c, hc, _⟩ => absurd hc (Nat.not_lt_zero c)⟩ ?_ ?_
    · rintro n b ⟨b1, b2⟩
      refine br_t (by decide) ⟨ij, vp_in_nI (by omega) (by omega), ?_⟩
      rw [ag1, rn_rA (f := mo) (by omega), rn_rA (f := ls) (by omega)]
      refine pk_le (mo (4 * j + ph j)) (pa j + 1) (fun k => h1 (Or.inl k)) (fun k => ⟨ij, vp_in_nI (by omega) (by omega), pk_lt (pa j + 1) (ls (4 * j + ph j)) (fun k2 => h0 (fun w => by omega)) (fun k2 => ?_)⟩)
      exact ek_f (rn_e rfl (b := 0) rfl (by omega) (by omega)) (fun k3 => h0 (fun w => w.elim (fun v => by omega) (fun v => v.2 (b2.mp k3)))) (fun k3 => h1 (Or.inr ⟨k2, fun w => k3 (b2.mpr w)⟩))
    · rintro n i b hi ⟨b1, b2⟩ ih
      have A := rI_c J0 i
      have B := rI_e J0 (ed i)
      have G := rI_gd J0 i hi
      have skip : ¬ rq_nd tt le st ed fr pg se j (4 * j + ph j) i → ∀ y, y = nI i + 1 → wY_light_26 post (nI j) (nI (4 * j + ph j)) (nI kn) (nI tn) th (rn_T ln) (rn_A op) (rn_A fm) (rn_A tt) (rn_A le) (rn_A ln) (rn_A li) (rn_A rk) (rn_A we) (rn_A ca) (rn_A mk) (rn_A fa) (rn_A tp) (rn_A ac) (rn_A sz) (rn_A dw) (rn_A st) (rn_A ty) (rn_A ed) (rn_A la) (rn_A fr) (rn_A sp) (rn_A go) (rn_A nz) (rn_A tk) (rn_C ch) (rn_A en) (rn_A nw) (rn_A gr) (rn_A cr) (rn_A ne) (rn_A nl) (rn_A oe) (rn_A ol) (rn_A fl) (rn_A pc) (rn_A ph) (rn_A (ru_p pa j (pa j + 1))) (rn_A se) (rn_A ls) (rn_A mo) (rn_A tl) gp fs n (nI b) y := by
        intro w
        refine nm_r (nI_1 i) (ih b ⟨b1, ?_⟩)
        rw [b2]
        constructor
        · rintro ⟨d, d1, d2⟩; exact ⟨d, by omega, d2⟩
        · rintro ⟨d, d1, d2⟩
          rcases Nat.decEq d i with z | z
          · exact ⟨d, by omega, d2⟩
          · subst z; exact absurd d2 w
      refine pk_le 32 i (fun z => by omega) (fun _ => ⟨pk_in i 32 hi, ?_⟩)
      refine ek_f (rn_e (rn_rA (by omega)) (b := 2) rfl (by omega) (by omega)) (fun e1 => ⟨pk_in i 32 hi, ?_⟩) (fun e1 => skip (fun w => e1 w.1))
      refine ek_f (rn_e (rn_rA (by omega)) (b := 0) rfl (by omega) (by omega)) (fun e2 => ⟨pk_in i 32 hi, rn_iA (by omega) A.2.2.1 (by omega), ?_⟩) (fun e2 => skip (fun w => by have := w.2.2.2.1; omega))
      refine ek_f (rn_e (rn_AA (by omega) (by omega)) (b := j) rfl (by omega) (by omega)) (fun e3 => ⟨vp_in_nI (by omega) (by omega), pk_in i 32 hi, ?_⟩) (fun e3 => skip (fun w => e3 w.2.1))
      rw [rn_rA (f := se) (by omega), rn_rA (f := ed) (by omega)]
      refine ek_f (rd_bt1 (by omega) (by omega)) (fun e4 => ⟨pk_in i 32 hi, vp_in_nI (by omega) (by omega), pk_in i 32 hi, ?_⟩) (fun e4 => skip (fun w => e4 w.2.2.1))
      refine ek_f (ri_t (ri_n 30) (b := (le (ed i) : Int) - fr i) (by rw [rn_rA (by omega), rn_rA (by omega), ri_n, ri_n, ri_sub]) (by omega) (by omega)) (fun e5 => skip (fun w => by have := w.2.2.2.2; omega)) (fun e5 => nm_r (nI_1 i) (ih 0 ⟨by omega, fun _ => ⟨i, by omega, e1, e3, e4, by omega, by omega⟩, fun _ => rfl⟩))
  rcases Classical.em (mo (4 * j + ph j) ≤ pa j + 1 ∨ (ls (4 * j + ph j) ≤ pa j + 1 ∧ ¬ ∃ c, c < 32 ∧ rq_nd tt le st ed fr pg se j (4 * j + ph j) c)) with T | T
  · refine ⟨ru_p ph j ((ph j + 1) % pc j), ru_p (ru_p pa j (pa j + 1)) j 0, ⟨⟨a1, a2, PB, a4, a5, a6, a7, a8⟩, S⟩, fun i hi => by rw [ru_n hi, ru_n hi], fun post J h => ⟨ij, ij, nm_r hag ⟨ij, ?_⟩⟩, fun post kn fa gp fs th h => yscan post kn fa gp fs th (fun _ => y158 post kn fa gp fs th h) (fun k => absurd T k)⟩
    rw [hix]
    refine ⟨vp_in_nI (by omega) (by omega), nm_r (rn_rA (by omega)) ⟨ij, by decide, ?_⟩⟩
    rw [ag1, show nI (pt (4 * j + ph j)) / 100 = nI (pt (4 * j + ph j) / 100) from pk_div (d := 100) (by omega) (by omega) (by omega), mo1]
    refine pk_lt (pa j + 1) (mo (4 * j + ph j)) (fun k => br_t rfl ⟨ij, by decide, ?_⟩) (fun k => br_f (by decide) (x87 post J h))
    rw [ag1, show nI (pt (4 * j + ph j)) - nI (pt (4 * j + ph j)) / 100 * 100 = nI (pt (4 * j + ph j) % 100) from pk_rem (d := 100) (by omega) (by omega) (by omega), ls1]
    refine pk_lt (pa j + 1) (ls (4 * j + ph j)) (fun k2 => ?_) (fun k2 => rx_pn _ rfl (⟨a1, a2, PA _ hN, a4, a5, a6, a7, a8⟩ : (rq_L ln fm tt le li rk we op mk wd wn pc ph (ru_p pa j (pa j + 1)) pe pt se ls mo tp ac sz dw st ty ed fr sp go tk en ch ps pg cf ct la gr cr ne nl oe ol fl tl tn N)) hj hp (rb_b (fun k3 => x87 post J h) (fun k3 => ?_)))
    · rcases T with z | z
      · omega
      · omega
    · rcases T with z | z
      · omega
      · exact absurd k3 z.2
  · refine ⟨ph, ru_p pa j (pa j + 1), ⟨⟨a1, a2, PA _ hN, a4, a5, a6, a7, a8⟩, S⟩, fun i hi => by rw [ru_n hi], fun post J h => ⟨ij, ij, nm_r hag ⟨ij, ?_⟩⟩, fun post kn fa gp fs th h => yscan post kn fa gp fs th (fun k => absurd k T) (fun _ => h)⟩
    rw [hix]
    refine ⟨vp_in_nI (by omega) (by omega), nm_r (rn_rA (by omega)) ⟨ij, by decide, ?_⟩⟩
    rw [ag1, show nI (pt (4 * j + ph j)) / 100 = nI (pt (4 * j + ph j) / 100) from pk_div (d := 100) (by omega) (by omega) (by omega), mo1]
    refine pk_lt (pa j + 1) (mo (4 * j + ph j)) (fun k => br_t rfl ⟨ij, by decide, ?_⟩) (fun k => absurd (Or.inl k) T)
    rw [ag1, show nI (pt (4 * j + ph j)) - nI (pt (4 * j + ph j)) / 100 * 100 = nI (pt (4 * j + ph j) % 100) from pk_rem (d := 100) (by omega) (by omega) (by omega), ls1]
    exact pk_lt (pa j + 1) (ls (4 * j + ph j)) (fun k2 => nm_r (nI_1 j) h) (fun k2 => rx_pn _ rfl (⟨a1, a2, PA _ hN, a4, a5, a6, a7, a8⟩ : (rq_L ln fm tt le li rk we op mk wd wn pc ph (ru_p pa j (pa j + 1)) pe pt se ls mo tp ac sz dw st ty ed fr sp go tk en ch ps pg cf ct la gr cr ne nl oe ol fl tl tn N)) hj hp (rb_b (fun k3 => absurd (Or.inr ⟨k2, k3⟩) T) (fun k3 => nm_r (nI_1 j) h)))
theorem rl_lts : ∀ d j, j + d = 8 → ∀ ph pa : Nat → Nat, (rq_I ln fm tt le li rk we op mk wd wn pc ph pa pe pt se ls mo tp ac sz dw st ty ed fr sp go tk en ch ps pg cf ct la gr cr ne nl oe ol fl tl tn N) → (∀ i, j ≤ i → i < 8 → pa i + 1 ≤ N) → ∃ ph' pa' : Nat → Nat, (rq_I ln fm tt le li rk we op mk wd wn pc ph' pa' pe pt se ls mo tp ac sz dw st ty ed fr sp go tk en ch ps pg cf ct la gr cr ne nl oe ol fl tl tn N) ∧
    (∀ post, post (nI tn, rn_A ln, rn_A fm, rn_A tt, rn_A le, rn_A li, rn_A rk, rn_A we, rn_A op, rn_A ca, rn_A mk, rn_B wd, rn_B wn, rn_A pc, rn_A ph', rn_A pa', rn_A pe, rn_A pt, rn_A tp, rn_A ac, rn_A sz, rn_A dw, rn_A st, rn_A ty, rn_A ed, rn_B ps, rn_A fr, rn_A sp, rn_A go, rn_A nz, rn_B pg, rn_B cf, rn_B ct, rn_A tk, rn_A en, rn_B ch, rn_A nw, rn_A tl) → wX_turnLights_2 post (nI tn) (d + 1) (nI j) (rn_A ln) (rn_A fm) (rn_A tt) (rn_A le) (rn_A li) (rn_A rk) (rn_A we) (rn_A op) (rn_A ca) (rn_A mk) (rn_B wd) (rn_B wn) (rn_A pc) (rn_A ph) (rn_A pa) (rn_A pe) (rn_A pt) (rn_A tp) (rn_A ac) (rn_A sz) (rn_A dw) (rn_A st) (rn_A ty) (rn_A ed) (rn_B ps) (rn_A fr) (rn_A sp) (rn_A go) (rn_A nz) (rn_B pg) (rn_B cf) (rn_B ct) (rn_A tk) (rn_A en) (rn_B ch) (rn_A nw) (rn_A tl)) ∧
    (∀ post kn fa gp fs th, (∃ n40, wY_stepOn_40 post n40 0 (nI kn) (nI tn) th (rn_T ln) (rn_A op) (rn_A fm) (rn_A tt) (rn_A le) (rn_A ln) (rn_A li) (rn_A rk) (rn_A we) (rn_A ca) (rn_A mk) (rn_A fa) (rn_A tp) (rn_A ac) (rn_A sz) (rn_A dw) (rn_A st) (rn_A ty) (rn_A ed) (rn_A la) (rn_A fr) (rn_A sp) (rn_A go) (rn_A nz) (rn_A tk) (rn_C ch) (rn_A en) (rn_A nw) (rn_A gr) (rn_A cr) (rn_A ne) (rn_A nl) (rn_A oe) (rn_A ol) (rn_A fl) (rn_A pc) (rn_A ph') (rn_A pa') (rn_A se) (rn_A ls) (rn_A mo) (rn_A tl) gp fs) → wY_stepOn_12 post (d + 1) (nI j) (nI kn) (nI tn) th (rn_T ln) (rn_A op) (rn_A fm) (rn_A tt) (rn_A le) (rn_A ln) (rn_A li) (rn_A rk) (rn_A we) (rn_A ca) (rn_A mk) (rn_A fa) (rn_A tp) (rn_A ac) (rn_A sz) (rn_A dw) (rn_A st) (rn_A ty) (rn_A ed) (rn_A la) (rn_A fr) (rn_A sp) (rn_A go) (rn_A nz) (rn_A tk) (rn_C ch) (rn_A en) (rn_A nw) (rn_A gr) (rn_A cr) (rn_A ne) (rn_A nl) (rn_A oe) (rn_A ol) (rn_A fl) (rn_A pc) (rn_A ph) (rn_A pa) (rn_A se) (rn_A ls) (rn_A mo) (rn_A tl) gp fs) := by
  intro d
  induction d with
  | zero =>
    intro j hj ph pa I hN
    have e8 : j = 8 := by omega
    subst e8
    exact ⟨ph, pa, I, fun post h => br_t (by decide) h, fun post kn fa gp fs th h => br_t (by decide) h⟩
  | succ d ih =>
    intro j hj ph pa I hN
    have j8 : j < 8 := by omega
    have P := (I.1.2.2.1 j j8).1
    rcases Nat.eq_zero_or_pos (pc j) with q | q
    · obtain ⟨ph', pa', I', x, y⟩ := ih (j + 1) (by omega) ph pa I (fun i h1 h2 => hN i (by omega) h2)
      refine ⟨ph', pa', I', fun post h => br_f (nI_ge (b := 8) j8 (by decide)) ⟨pk_in j 8 j8, pk_le (pc j) 0 (fun _ => nm_r (nI_1 j) (x post h)) (fun z => by omega) (rn_rA (by omega))⟩, fun post kn fa gp fs th h => br_f (nI_ge (b := 8) j8 (by decide)) ⟨pk_in j 8 j8, pk_le (pc j) 0 (fun _ => nm_r (nI_1 j) (y post kn fa gp fs th h)) (fun z => by omega) (rn_rA (by omega))⟩⟩
    · obtain ⟨ph1, pa1, I1, o1, x1, y1⟩ := rl_lt I j8 q (hN j (Nat.le_refl _) j8)
      obtain ⟨ph', pa', I', x, y⟩ := ih (j + 1) (by omega) ph1 pa1 I1 (fun i h1 h2 => by rw [o1 i (by omega)]; exact hN i (by omega) h2)
      refine ⟨ph', pa', I', fun post h => br_f (nI_ge (b := 8) j8 (by decide)) ⟨pk_in j 8 j8, pk_le (pc j) 0 (fun z => by omega) (fun _ => x1 post _ (x post h)) (rn_rA (by omega))⟩, fun post kn fa gp fs th h => br_f (nI_ge (b := 8) j8 (by decide)) ⟨pk_in j 8 j8, pk_le (pc j) 0 (fun z => by omega) (fun _ => y1 _ kn fa gp fs th (nm_r (nI_1 j) (y post kn fa gp fs th h))) (rn_rA (by omega))⟩⟩
end
end
section
/-! run -/
section
variable {ln fm tt le li rk we op ca mk wd wn fa pc ph pa pe pt se ls mo tp ac sz dw st ty ed fr sp go nz tk en ch nw ps pg cf ct la gr cr ne nl oe ol fl tl : Nat → Nat} {tn kn N : Nat} {th : Int32} {gp fs : Nat → Int32}
theorem rq_Cup {tn' N' : Nat} (h : (rq_C ln st ty ed fr sp go tk en ch ps pg cf ct la gr cr ne nl oe ol fl tn N)) (h1 : tn ≤ tn') (h2 : N ≤ N') : (rq_C ln st ty ed fr sp go tk en ch ps pg cf ct la gr cr ne nl oe ol fl tn' N') := by
  refine ⟨fun c => ?_, h.2⟩
  have := h.1 c
  omega
theorem rq_Pup {N' : Nat} (h : (rq_P pc ph pa pe pt se ls mo N)) (h2 : N ≤ N') : (rq_P pc ph pa pe pt se ls mo N') := by
  intro j hj
  obtain ⟨b1, b2, b3, b4, b5⟩ := h j hj
  exact ⟨b1, b2, b3, by omega, b5⟩
theorem rl_N1 (I : (rq_I ln fm tt le li rk we op mk wd wn pc ph pa pe pt se ls mo tp ac sz dw st ty ed fr sp go tk en ch ps pg cf ct la gr cr ne nl oe ol fl tl tn N)) (hN : N + 1 ≤ 20000) : (rq_I ln fm tt le li rk we op mk wd wn pc ph pa pe pt se ls mo tp ac sz dw st ty ed fr sp go tk en ch ps pg cf ct la gr cr ne nl oe ol fl (ru_p tl 0 (tl 0 + 1)) tn (N + 1)) := by
  obtain ⟨⟨a1, a2, a3, a4, a5, a6, a7, a8⟩, S⟩ := I
  exact ⟨⟨a1, rq_Cup a2 (Nat.le_refl _) (by omega), rq_Pup a3 (by omega), a4, a5, by rw [ru_s, a6], hN, a8⟩, S⟩
theorem rl_run {n : Nat} (hn : n ≤ 20) : ∀ d i, i + d = n → ∀ (ph pa ps la ch tl pg gr ne nl nz nw ca st ed fr sp cf ct cr oe ol fl en : Nat → Nat) (N : Nat), (rq_I ln fm tt le li rk we op mk wd wn pc ph pa pe pt se ls mo tp ac sz dw st ty ed fr sp go tk en ch ps pg cf ct la gr cr ne nl oe ol fl tl tn N) → N + d ≤ 20000 → ∃ ph' pa' ps' la' ch' tl' pg' gr' ne' nl' nz' nw' ca' st' ed' fr' sp' cf' ct' cr' oe' ol' fl' en' : Nat → Nat, (rq_I ln fm tt le li rk we op mk wd wn pc ph' pa' pe pt se ls mo tp ac sz dw st' ty ed' fr' sp' go tk en' ch' ps' pg' cf' ct' la' gr' cr' ne' nl' oe' ol' fl' tl' tn (N + d)) ∧
    (∀ post, post (nI n) (nI tn, rn_A ln, rn_A fm, rn_A tt, rn_A le, rn_A li, rn_A rk, rn_A we, rn_A op, rn_A ca', rn_A mk, rn_B wd, rn_B wn, rn_A pc, rn_A ph', rn_A pa', rn_A pe, rn_A pt, rn_A tp, rn_A ac, rn_A sz, rn_A dw, rn_A st', rn_A ty, rn_A ed', rn_B ps', rn_A fr', rn_A sp', rn_A go, rn_A nz', rn_B pg', rn_B cf', rn_B ct', rn_A tk, rn_A en', rn_B ch', rn_A nw', rn_A tl') → wX_run_14 post (nI n) (d + 1) (nI i) (nI tn) (rn_A ln) (rn_A fm) (rn_A tt) (rn_A le) (rn_A li) (rn_A rk) (rn_A we) (rn_A op) (rn_A ca) (rn_A mk) (rn_B wd) (rn_B wn) (rn_A pc) (rn_A ph) (rn_A pa) (rn_A pe) (rn_A pt) (rn_A tp) (rn_A ac) (rn_A sz) (rn_A dw) (rn_A st) (rn_A ty) (rn_A ed) (rn_B ps) (rn_A fr) (rn_A sp) (rn_A go) (rn_A nz) (rn_B pg) (rn_B cf) (rn_B ct) (rn_A tk) (rn_A en) (rn_B ch) (rn_A nw) (rn_A tl)) ∧
    (∀ post kn fa gp fs th, (rq_WY ln fm tt le li we op mk fa kn) → (∀ kn fa gp fs th, (rq_WY ln fm tt le li we op mk fa kn) → post (nI n) (nI kn, nI tn, th, rn_T ln, rn_A op, rn_A fm, rn_A tt, rn_A le, rn_A ln, rn_A li, rn_A rk, rn_A we, rn_A ca', rn_A mk, rn_A fa, rn_A tp, rn_A ac, rn_A sz, rn_A dw, rn_A st', rn_A ty, rn_A ed', rn_A la', rn_A fr', rn_A sp', rn_A go, rn_A nz', rn_A tk, rn_C ch', rn_A en', rn_A nw', rn_A gr', rn_A cr', rn_A ne', rn_A nl', rn_A oe', rn_A ol', rn_A fl', rn_A pc, rn_A ph', rn_A pa', rn_A se, rn_A ls, rn_A mo, rn_A tl', gp, fs)) → wY_run_14 post (nI n) (d + 1) (nI i) (nI kn) (nI tn) th (rn_T ln) (rn_A op) (rn_A fm) (rn_A tt) (rn_A le) (rn_A ln) (rn_A li) (rn_A rk) (rn_A we) (rn_A ca) (rn_A mk) (rn_A fa) (rn_A tp) (rn_A ac) (rn_A sz) (rn_A dw) (rn_A st) (rn_A ty) (rn_A ed) (rn_A la) (rn_A fr) (rn_A sp) (rn_A go) (rn_A nz) (rn_A tk) (rn_C ch) (rn_A en) (rn_A nw) (rn_A gr) (rn_A cr) (rn_A ne) (rn_A nl) (rn_A oe) (rn_A ol) (rn_A fl) (rn_A pc) (rn_A ph) (rn_A pa) (rn_A se) (rn_A ls) (rn_A mo) (rn_A tl) gp fs) := by
  intro d
  induction d with
  | zero =>
    intro i hi ph pa ps la ch tl pg gr ne nl nz nw ca st ed fr sp cf ct cr oe ol fl en N I hN
    have e : i = n := by omega
    subst e
    exact ⟨ph, pa, ps, la, ch, tl, pg, gr, ne, nl, nz, nw, ca, st, ed, fr, sp, cf, ct, cr, oe, ol, fl, en, I, fun post h => br_t (nI_le (Nat.le_refl _) (by omega)) h, fun post kn fa gp fs th hW h => br_t (nI_le (Nat.le_refl _) (by omega)) (h kn fa gp fs th hW)⟩
  | succ d ih =>
    intro i hi ph pa ps la ch tl pg gr ne nl nz nw ca st ed fr sp cf ct cr oe ol fl en N I hN
    have I0 := rl_N1 I (by omega)
    obtain ⟨ph1, pa1, I1, x1, y1⟩ := rl_lts 8 0 rfl ph pa I0 (fun j _ hj => by have := (I.1.2.2.1 j hj).2.2.2.1; omega)
    obtain ⟨ps2, la2, ch2, tl2, I2, x2, y2⟩ := rl_all 16 0 rfl ps la ch (ru_p tl 0 (tl 0 + 1)) I1
    obtain ⟨pg3, gr3, ne3, nl3, tl3, I3, x3, y3⟩ := rl_cra 8 0 rfl pg gr ne nl tl2 I2
    obtain ⟨nz4, nw4, ca4, st4, ed4, fr4, sp4, ps4, pg4, cf4, ct4, la4, gr4, cr4, oe4, ol4, fl4, tl4, I4, x4, y4⟩ := rl_mv (nz := nz) (nw := nw) (ca := ca) I3
    obtain ⟨ca5, st5, fr5, sp5, en5, ps5, la5, cr5, tl5, I5, x5, y5⟩ := rl_ena 16 0 rfl ca4 st4 fr4 sp4 en ps4 la4 cr4 tl4 I4
    obtain ⟨ph6, pa6, ps6, la6, ch6, tl6, pg6, gr6, ne6, nl6, nz6, nw6, ca6, st6, ed6, fr6, sp6, cf6, ct6, cr6, oe6, ol6, fl6, en6, I6, x6, y6⟩ := ih (i + 1) (by omega) ph1 pa1 ps5 la5 ch2 tl5 pg4 gr4 ne3 nl3 nz4 nw4 ca5 st5 ed4 fr5 sp5 cf4 ct4 cr5 oe4 ol4 fl4 en5 (N + 1) I5 (by omega)
    rw [show N + 1 + d = N + (d + 1) by omega] at I6
    have hi2 : i < n := by omega
    refine ⟨ph6, pa6, ps6, la6, ch6, tl6, pg6, gr6, ne6, nl6, nz6, nw6, ca6, st6, ed6, fr6, sp6, cf6, ct6, cr6, oe6, ol6, fl6, en6, I6, fun post h => br_f (nI_ge hi2 (by omega)) (nm_r (rn_u3 0) ?_), fun post kn fa gp fs th hW h => br_f (nI_ge hi2 (by omega)) (nm_r (rn_u3 0) ⟨9, y1 _ kn fa gp fs th ⟨17, y2 _ kn fa gp fs th hW (fun kn fa hW2 => ⟨9, y3 _ kn fa gp fs th hW2 (fun kn fa gp fs th hW3 => y4 _ kn fa gp fs th (fun gp fs th => ⟨17, y5 _ kn fa gp fs th hW3 (fun kn fa hW4 => nm_r (nI_1 i) (y6 post kn fa gp fs th hW4 h))⟩))⟩)⟩⟩)⟩
    exact ⟨9, x1 _ ⟨17, x2 _ ⟨9, x3 _ (x4 _ ⟨17, x5 _ (nm_r (nI_1 i) (x6 post h))⟩)⟩⟩⟩
end
end
section
/-! the relation -/
def i_Rel (k : Nat) (u : SX) (v : SY) : Prop := ∃ (ln fm tt le li rk we op ca mk wd wn fa pc ph pa pe pt se ls mo tp ac sz dw st ty ed fr sp go nz tk en ch nw ps pg cf ct la gr cr ne nl oe ol fl tl : Nat → Nat) (tn kn N : Nat) (th : Int32) (gp fs : Nat → Int32), u = (nI tn, rn_A ln, rn_A fm, rn_A tt, rn_A le, rn_A li, rn_A rk, rn_A we, rn_A op, rn_A ca, rn_A mk, rn_B wd, rn_B wn, rn_A pc, rn_A ph, rn_A pa, rn_A pe, rn_A pt, rn_A tp, rn_A ac, rn_A sz, rn_A dw, rn_A st, rn_A ty, rn_A ed, rn_B ps, rn_A fr, rn_A sp, rn_A go, rn_A nz, rn_B pg, rn_B cf, rn_B ct, rn_A tk, rn_A en, rn_B ch, rn_A nw, rn_A tl) ∧ v = (nI kn, nI tn, th, rn_T ln, rn_A op, rn_A fm, rn_A tt, rn_A le, rn_A ln, rn_A li, rn_A rk, rn_A we, rn_A ca, rn_A mk, rn_A fa, rn_A tp, rn_A ac, rn_A sz, rn_A dw, rn_A st, rn_A ty, rn_A ed, rn_A la, rn_A fr, rn_A sp, rn_A go, rn_A nz, rn_A tk, rn_C ch, rn_A en, rn_A nw, rn_A gr, rn_A cr, rn_A ne, rn_A nl, rn_A oe, rn_A ol, rn_A fl, rn_A pc, rn_A ph, rn_A pa, rn_A se, rn_A ls, rn_A mo, rn_A tl, gp, fs) ∧ (rq_I ln fm tt le li rk we op mk wd wn pc ph pa pe pt se ls mo tp ac sz dw st ty ed fr sp go tk en ch ps pg cf ct la gr cr ne nl oe ol fl tl tn N) ∧ (rq_WY ln fm tt le li we op mk fa kn) ∧ N ≤ 4 * k ∧ tn ≤ k
theorem i_up {k : Nat} {u : SX} {v : SY} (h : i_Rel k u v) : i_Rel (k + 5) u v := by
  obtain ⟨ln, fm, tt, le, li, rk, we, op, ca, mk, wd, wn, fa, pc, ph, pa, pe, pt, se, ls, mo, tp, ac, sz, dw, st, ty, ed, fr, sp, go, nz, tk, en, ch, nw, ps, pg, cf, ct, la, gr, cr, ne, nl, oe, ol, fl, tl, tn, kn, N, th, gp, fs, e1, e2, I, hW, hN, ht⟩ := h
  exact ⟨ln, fm, tt, le, li, rk, we, op, ca, mk, wd, wn, fa, pc, ph, pa, pe, pt, se, ls, mo, tp, ac, sz, dw, st, ty, ed, fr, sp, go, nz, tk, en, ch, nw, ps, pg, cf, ct, la, gr, cr, ne, nl, oe, ol, fl, tl, tn, kn, N, th, gp, fs, e1, e2, I, hW, by omega, by omega⟩
section
variable {ln fm tt le li rk we op ca mk wd wn fa pc ph pa pe pt se ls mo tp ac sz dw st ty ed fr sp go nz tk en ch nw ps pg cf ct la gr cr ne nl oe ol fl tl : Nat → Nat} {tn kn N : Nat} {th : Int32} {gp fs : Nat → Int32}
theorem rl_rel {k : Nat} (I : (rq_I ln fm tt le li rk we op mk wd wn pc ph pa pe pt se ls mo tp ac sz dw st ty ed fr sp go tk en ch ps pg cf ct la gr cr ne nl oe ol fl tl tn N)) (hW : (rq_WY ln fm tt le li we op mk fa kn)) (hN : N ≤ 4 * k) (ht : tn ≤ k) : i_Rel k (nI tn, rn_A ln, rn_A fm, rn_A tt, rn_A le, rn_A li, rn_A rk, rn_A we, rn_A op, rn_A ca, rn_A mk, rn_B wd, rn_B wn, rn_A pc, rn_A ph, rn_A pa, rn_A pe, rn_A pt, rn_A tp, rn_A ac, rn_A sz, rn_A dw, rn_A st, rn_A ty, rn_A ed, rn_B ps, rn_A fr, rn_A sp, rn_A go, rn_A nz, rn_B pg, rn_B cf, rn_B ct, rn_A tk, rn_A en, rn_B ch, rn_A nw, rn_A tl) (nI kn, nI tn, th, rn_T ln, rn_A op, rn_A fm, rn_A tt, rn_A le, rn_A ln, rn_A li, rn_A rk, rn_A we, rn_A ca, rn_A mk, rn_A fa, rn_A tp, rn_A ac, rn_A sz, rn_A dw, rn_A st, rn_A ty, rn_A ed, rn_A la, rn_A fr, rn_A sp, rn_A go, rn_A nz, rn_A tk, rn_C ch, rn_A en, rn_A nw, rn_A gr, rn_A cr, rn_A ne, rn_A nl, rn_A oe, rn_A ol, rn_A fl, rn_A pc, rn_A ph, rn_A pa, rn_A se, rn_A ls, rn_A mo, rn_A tl, gp, fs) := ⟨ln, fm, tt, le, li, rk, we, op, ca, mk, wd, wn, fa, pc, ph, pa, pe, pt, se, ls, mo, tp, ac, sz, dw, st, ty, ed, fr, sp, go, nz, tk, en, ch, nw, ps, pg, cf, ct, la, gr, cr, ne, nl, oe, ol, fl, tl, tn, kn, N, th, gp, fs, rfl, rfl, I, hW, hN, ht⟩
end
end
section
/-! edge, connect, weight -/
theorem rn_rg {x : Int32} {a b : Nat} (ha : a < 2147483648) (hb : b < 2147483648) (h1 : ¬ x < nI a) (h2 : ¬ nI b < x) : ∃ L, x = nI L ∧ a ≤ L ∧ L ≤ b := by
  rw [Int32.lt_iff_toInt_lt] at h1 h2
  rw [nI_toInt hb] at h2
  rw [nI_toInt ha] at h1
  have e : x = nI x.toInt.toNat := by
    apply Int32.toInt_inj.mp
    rw [nI_toInt (by omega)]
    omega
  exact ⟨x.toInt.toNat, e, by omega, by omega⟩
theorem rn_nl {a b : Nat} (ha : a < 2 ^ 31) (hb : b < 2 ^ 31) (h : ¬ nI a < nI b) : b ≤ a := by
  rw [nI_ltI ha hb] at h
  omega
def ra_edge (st : Nat → Nat) (p0 p1 p2 p3 : Int32) : Prop := ∃ e n L s : Nat, p0 = nI e ∧ e < 16 ∧ p1 = nI n ∧ n < 64 ∧ p2 = nI L ∧ 20 ≤ L ∧ L ≤ 200 ∧ p3 = nI s ∧ s < 256 ∧ n / 8 ≠ n % 8 ∧ 1 ≤ s % 4 ∧ s % 4 ≤ 2 ∧ 1 ≤ s / 4 % 16 ∧ s / 4 % 16 ≤ 12 ∧ ¬ ∃ c, c < 32 ∧ st c ≠ 0
section
variable {ln fm tt le li rk we op ca mk wd wn fa pc ph pa pe pt se ls mo tp ac sz dw st ty ed fr sp go nz tk en ch nw ps pg cf ct la gr cr ne nl oe ol fl tl : Nat → Nat} {tn kn N : Nat} {th : Int32} {gp fs : Nat → Int32}
theorem ra_edgeB {p1 p3 : Int32} {n s : Nat} (h1 : p1 = nI n) (hn : n < 64) (h3 : p3 = nI s) (hs : s < 256) : p1 / 8 = nI (n / 8) ∧ p1 - p1 / 8 * 8 = nI (n % 8) ∧ p3 - p3 / 4 * 4 = nI (s % 4) ∧ p3 / 4 - p3 / 4 / 16 * 16 = nI (s / 4 % 16) ∧ p3 / 64 = nI (s / 64) := by
  subst h1 h3
  have e4 : nI s / 4 = nI (s / 4) := pk_div (d := 4) (by omega) (by omega) (by omega)
  refine ⟨pk_div (d := 8) (by omega) (by omega) (by omega), pk_rem (d := 8) (by omega) (by omega) (by omega), pk_rem (d := 4) (by omega) (by omega) (by omega), ?_, pk_div (d := 64) (by omega) (by omega) (by omega)⟩
  rw [e4]
  exact pk_rem (d := 16) (by omega) (by omega) (by omega)
theorem rx_edgeN (post : Int32 → SX → Prop) {p0 p1 p2 p3 : Int32} (I : (rq_L ln fm tt le li rk we op mk wd wn pc ph pa pe pt se ls mo tp ac sz dw st ty ed fr sp go tk en ch ps pg cf ct la gr cr ne nl oe ol fl tl tn N)) (hn : ¬ ra_edge st p0 p1 p2 p3) (h : post 0 (nI tn, rn_A ln, rn_A fm, rn_A tt, rn_A le, rn_A li, rn_A rk, rn_A we, rn_A op, rn_A ca, rn_A mk, rn_B wd, rn_B wn, rn_A pc, rn_A ph, rn_A pa, rn_A pe, rn_A pt, rn_A tp, rn_A ac, rn_A sz, rn_A dw, rn_A st, rn_A ty, rn_A ed, rn_B ps, rn_A fr, rn_A sp, rn_A go, rn_A nz, rn_B pg, rn_B cf, rn_B ct, rn_A tk, rn_A en, rn_B ch, rn_A nw, rn_A tl)) : wpX_edge post (nI tn, rn_A ln, rn_A fm, rn_A tt, rn_A le, rn_A li, rn_A rk, rn_A we, rn_A op, rn_A ca, rn_A mk, rn_B wd, rn_B wn, rn_A pc, rn_A ph, rn_A pa, rn_A pe, rn_A pt, rn_A tp, rn_A ac, rn_A sz, rn_A dw, rn_A st, rn_A ty, rn_A ed, rn_B ps, rn_A fr, rn_A sp, rn_A go, rn_A nz, rn_B pg, rn_B cf, rn_B ct, rn_A tk, rn_A en, rn_B ch, rn_A nw, rn_A tl) p0 p1 p2 p3 := by
  refine br_c (fun _ => h) (fun k0 => br_c (fun _ => h) (fun k1 => br_c (fun _ => h) (fun k2 => br_c (fun _ => h) (fun k3 => br_c (fun _ => h) (fun k4 => br_c (fun k5 => ⟨by decide, fun x5 e5 => ⟨by decide, fun x6 e6 => ⟨by decide, fun x7 e7 => ⟨by decide, by decide, fun x8 e8 => ?_⟩⟩⟩⟩) (fun _ => h))))))
  refine br_c (fun _ => h) (fun k6 => br_c (fun _ => h) (fun k7 => br_c (fun _ => h) (fun k8 => br_c (fun _ => h) (fun k9 => br_c (fun _ => h) (fun k10 => br_c (fun _ => h) (fun k11 => br_c (fun k12 => ?_) (fun _ => h)))))))
  refine rx_any _ (rI_st I) (rb_b (fun k13 => ?_) (fun _ => h))
  exfalso
  obtain ⟨e, he, q0⟩ := rn_16 (M := 16) (by omega) k0 k1
  obtain ⟨n, hn1, q1⟩ := rn_16 (M := 64) (by omega) k2 k3
  obtain ⟨L, q2, hL, hL2⟩ := rn_rg (a := 20) (b := 200) (by omega) (by omega) k4 (Int32.not_lt.mpr k5)
  obtain ⟨s, hs, q3⟩ := rn_16 (M := 256) (by omega) k7 k8
  obtain ⟨b1, b2, b3, b4, b5⟩ := ra_edgeB q1 hn1 q3 hs
  rw [e5, e6, b2, b1, nI_eq (by omega) (by omega)] at k6
  rw [e7, b3] at k9 k10
  rw [e8, b4] at k11 k12
  have k9' := rn_nl (a := s % 4) (b := 1) (by omega) (by omega) k9
  have k10' := rn_nl (a := 2) (b := s % 4) (by omega) (by omega) k10
  have k11' := rn_nl (a := s / 4 % 16) (b := 1) (by omega) (by omega) k11
  have k12' := (nI_leI (a := s / 4 % 16) (b := 12) (by omega) (by omega)).mp k12
  exact hn ⟨e, n, L, s, q0, he, q1, hn1, q2, hL, hL2, q3, hs, k6, by omega, by omega, by omega, k12', k13⟩
theorem ry_edgeN (post : Int32 → SY → Prop) {p0 p1 p2 p3 : Int32} (I : (rq_L ln fm tt le li rk we op mk wd wn pc ph pa pe pt se ls mo tp ac sz dw st ty ed fr sp go tk en ch ps pg cf ct la gr cr ne nl oe ol fl tl tn N)) (hn : ¬ ra_edge st p0 p1 p2 p3) (h : post 0 (nI kn, nI tn, th, rn_T ln, rn_A op, rn_A fm, rn_A tt, rn_A le, rn_A ln, rn_A li, rn_A rk, rn_A we, rn_A ca, rn_A mk, rn_A fa, rn_A tp, rn_A ac, rn_A sz, rn_A dw, rn_A st, rn_A ty, rn_A ed, rn_A la, rn_A fr, rn_A sp, rn_A go, rn_A nz, rn_A tk, rn_C ch, rn_A en, rn_A nw, rn_A gr, rn_A cr, rn_A ne, rn_A nl, rn_A oe, rn_A ol, rn_A fl, rn_A pc, rn_A ph, rn_A pa, rn_A se, rn_A ls, rn_A mo, rn_A tl, gp, fs)) : wpY_edge post (nI kn, nI tn, th, rn_T ln, rn_A op, rn_A fm, rn_A tt, rn_A le, rn_A ln, rn_A li, rn_A rk, rn_A we, rn_A ca, rn_A mk, rn_A fa, rn_A tp, rn_A ac, rn_A sz, rn_A dw, rn_A st, rn_A ty, rn_A ed, rn_A la, rn_A fr, rn_A sp, rn_A go, rn_A nz, rn_A tk, rn_C ch, rn_A en, rn_A nw, rn_A gr, rn_A cr, rn_A ne, rn_A nl, rn_A oe, rn_A ol, rn_A fl, rn_A pc, rn_A ph, rn_A pa, rn_A se, rn_A ls, rn_A mo, rn_A tl, gp, fs) p0 p1 p2 p3 := by
  refine ⟨by decide, fun x5 e5 => ⟨by decide, by decide, fun x6 e6 => ?_⟩⟩
  refine ry_in _ _ _ _ (rb_b (fun _ => h) (fun k0 => ?_))
  refine ry_in _ _ _ _ (rb_b (fun _ => h) (fun k1 => ?_))
  refine ⟨by decide, by decide, br_c (fun _ => h) (fun k2 => ?_)⟩
  refine ry_in _ _ _ _ (rb_b (fun _ => h) (fun k3 => ?_))
  refine ry_in _ _ _ _ (rb_b (fun _ => h) (fun k4 => ?_))
  refine ry_in _ _ _ _ (rb_b (fun _ => h) (fun k5 => ?_))
  refine ry_in _ _ _ _ (rb_b (fun _ => h) (fun k6 => ?_))
  refine ry_no _ (rI_st I) (rb_b (fun _ => h) (fun k7 => ?_))
  exfalso
  obtain ⟨e, q0, _, he⟩ := rn_rg (a := 0) (b := 15) (by omega) (by omega) k0.1 k0.2
  obtain ⟨n, q1, _, hn1⟩ := rn_rg (a := 0) (b := 63) (by omega) (by omega) k1.1 k1.2
  obtain ⟨L, q2, hL, hL2⟩ := rn_rg (a := 20) (b := 200) (by omega) (by omega) k3.1 k3.2
  obtain ⟨s, q3, _, hs⟩ := rn_rg (a := 0) (b := 255) (by omega) (by omega) k4.1 k4.2
  obtain ⟨b1, b2, b3, b4, b5⟩ := ra_edgeB q1 (by omega) q3 (by omega)
  rw [b2, b1, nI_eq (by omega) (by omega)] at k2
  rw [e5, b3] at k5
  rw [e6, b4] at k6
  have k9' := rn_nl (a := s % 4) (b := 1) (by omega) (by omega) k5.1
  have k10' := rn_nl (a := 2) (b := s % 4) (by omega) (by omega) k5.2
  have k11' := rn_nl (a := s / 4 % 16) (b := 1) (by omega) (by omega) k6.1
  have k12' := rn_nl (a := 12) (b := s / 4 % 16) (by omega) (by omega) k6.2
  exact hn ⟨e, n, L, s, q0, by omega, q1, by omega, q2, hL, hL2, q3, by omega, k2, by omega, by omega, by omega, by omega, k7⟩
theorem rx_edgeA (post : Int32 → SX → Prop) {e n L s : Nat} (I : (rq_L ln fm tt le li rk we op mk wd wn pc ph pa pe pt se ls mo tp ac sz dw st ty ed fr sp go tk en ch ps pg cf ct la gr cr ne nl oe ol fl tl tn N)) (he : e < 16) (hn : n < 64) (hL : 20 ≤ L) (hL2 : L ≤ 200) (hs : s < 256) (k1 : n / 8 ≠ n % 8) (k2 : 1 ≤ s % 4) (k3 : s % 4 ≤ 2) (k4 : 1 ≤ s / 4 % 16) (k5 : s / 4 % 16 ≤ 12) (k6 : ¬ ∃ c, c < 32 ∧ st c ≠ 0)
    (hE : (rq_E (ru_p ln e (s % 4)) (ru_p fm e (n / 8)) (ru_p tt e (n % 8)) (ru_p le e L) (ru_p li e (s / 4 % 16)) (ru_p rk e (s / 64)) (ru_p we e 0) (ru_p op e 1) (ru_p (ru_p mk (2 * e) 65535) (2 * e + 1) 65535)))
    (H : ∀ wd wn, (rq_WX (ru_p ln e (s % 4)) (ru_p fm e (n / 8)) (ru_p tt e (n % 8)) (ru_p le e L) (ru_p li e (s / 4 % 16)) (ru_p we e 0) (ru_p op e 1) (ru_p (ru_p mk (2 * e) 65535) (2 * e + 1) 65535) wd wn) → post 1 (nI tn, rn_A (ru_p ln e (s % 4)), rn_A (ru_p fm e (n / 8)), rn_A (ru_p tt e (n % 8)), rn_A (ru_p le e L), rn_A (ru_p li e (s / 4 % 16)), rn_A (ru_p rk e (s / 64)), rn_A (ru_p we e 0), rn_A (ru_p op e 1), rn_A (ru_p ca e 0), rn_A (ru_p (ru_p mk (2 * e) 65535) (2 * e + 1) 65535), rn_B wd, rn_B wn, rn_A pc, rn_A ph, rn_A pa, rn_A pe, rn_A pt, rn_A tp, rn_A ac, rn_A sz, rn_A dw, rn_A st, rn_A ty, rn_A ed, rn_B ps, rn_A fr, rn_A sp, rn_A go, rn_A nz, rn_B pg, rn_B cf, rn_B ct, rn_A tk, rn_A en, rn_B ch, rn_A nw, rn_A tl)) : wpX_edge post (nI tn, rn_A ln, rn_A fm, rn_A tt, rn_A le, rn_A li, rn_A rk, rn_A we, rn_A op, rn_A ca, rn_A mk, rn_B wd, rn_B wn, rn_A pc, rn_A ph, rn_A pa, rn_A pe, rn_A pt, rn_A tp, rn_A ac, rn_A sz, rn_A dw, rn_A st, rn_A ty, rn_A ed, rn_B ps, rn_A fr, rn_A sp, rn_A go, rn_A nz, rn_B pg, rn_B cf, rn_B ct, rn_A tk, rn_A en, rn_B ch, rn_A nw, rn_A tl) (nI e) (nI n) (nI L) (nI s) := by
  obtain ⟨b1, b2, b3, b4, b5⟩ := ra_edgeB (n := n) (s := s) rfl hn rfl hs
  have ie : vp_in (nI e) 16 := pk_in e 16 he
  have m2 : (2 : Int32) * nI e = nI (2 * e) := pk_mul 2 _
  refine br_f (nI_pos (by omega)) (br_f (nI_ge (b := 16) he (by decide)) (br_f (nI_pos (by omega)) (br_f (nI_ge (b := 64) hn (by decide)) (br_f (nI_nlt (b := 20) hL (by omega)) (br_t (nI_le (b := 200) hL2 (by decide)) ⟨by decide, nm_r b1 ⟨by decide, nm_r b2 ⟨by decide, nm_r b3 ⟨by decide, by decide, nm_r b4 ?_⟩⟩⟩⟩)))))
  refine br_f (fun w => k1 ((nI_eq (by omega) (by omega)).mp w)) (br_f (nI_pos (by omega)) (br_f (nI_ge (b := 256) hs (by decide)) (br_f (nI_nlt (b := 1) k2 (by omega)) (br_f (nI_nlt (a := 2) k3 (by decide)) (br_f (nI_nlt (b := 1) k4 (by omega)) (br_t (nI_le (b := 12) k5 (by decide)) (rx_any _ (rI_st I) (rb_b (fun _ => ?_) (fun w => absurd w k6)))))))))
  rw [rn_vb, b5, m2, show nI (2 * e) + 1 = nI (2 * e + 1) from nI_1 _]
  refine ⟨ie, nm_r (rn_uA (by omega)) ⟨ie, nm_r (rn_uA (by omega)) ⟨ie, nm_r (rn_uA (by omega)) ⟨ie, nm_r (rn_uA (by omega)) ⟨ie, nm_r (rn_uA (by omega)) ⟨by decide, ie, nm_r (rn_uA (by omega)) ⟨ie, nm_r (rn_uA (x := 0) (by omega)) ⟨ie, nm_r (rn_uA (x := 1) (by omega)) ⟨ie, nm_r (rn_uA (x := 0) (by omega)) ⟨vp_in_nI (by omega) (by omega), nm_r (rn_uA (x := 65535) (by omega)) ⟨vp_in_nI (by omega) (by omega), nm_r (rn_uA (x := 65535) (by omega)) (rx_ways _ hE H)⟩⟩⟩⟩⟩⟩⟩⟩⟩⟩⟩
theorem ry_edgeA (post : Int32 → SY → Prop) {e n L s : Nat} (I : (rq_L ln fm tt le li rk we op mk wd wn pc ph pa pe pt se ls mo tp ac sz dw st ty ed fr sp go tk en ch ps pg cf ct la gr cr ne nl oe ol fl tl tn N)) (he : e < 16) (hn : n < 64) (hL : 20 ≤ L) (hL2 : L ≤ 200) (hs : s < 256) (k1 : n / 8 ≠ n % 8) (k2 : 1 ≤ s % 4) (k3 : s % 4 ≤ 2) (k4 : 1 ≤ s / 4 % 16) (k5 : s / 4 % 16 ≤ 12) (k6 : ¬ ∃ c, c < 32 ∧ st c ≠ 0)
    (H : post 1 (nI 0, nI tn, th, rn_T (ru_p ln e (s % 4)), rn_A (ru_p op e 1), rn_A (ru_p fm e (n / 8)), rn_A (ru_p tt e (n % 8)), rn_A (ru_p le e L), rn_A (ru_p ln e (s % 4)), rn_A (ru_p li e (s / 4 % 16)), rn_A (ru_p rk e (s / 64)), rn_A (ru_p we e 0), rn_A (ru_p ca e 0), rn_A (ru_p (ru_p mk (2 * e) 65535) (2 * e + 1) 65535), rn_A fa, rn_A tp, rn_A ac, rn_A sz, rn_A dw, rn_A st, rn_A ty, rn_A ed, rn_A la, rn_A fr, rn_A sp, rn_A go, rn_A nz, rn_A tk, rn_C ch, rn_A en, rn_A nw, rn_A gr, rn_A cr, rn_A ne, rn_A nl, rn_A oe, rn_A ol, rn_A fl, rn_A pc, rn_A ph, rn_A pa, rn_A se, rn_A ls, rn_A mo, rn_A tl, gp, fs)) : wpY_edge post (nI kn, nI tn, th, rn_T ln, rn_A op, rn_A fm, rn_A tt, rn_A le, rn_A ln, rn_A li, rn_A rk, rn_A we, rn_A ca, rn_A mk, rn_A fa, rn_A tp, rn_A ac, rn_A sz, rn_A dw, rn_A st, rn_A ty, rn_A ed, rn_A la, rn_A fr, rn_A sp, rn_A go, rn_A nz, rn_A tk, rn_C ch, rn_A en, rn_A nw, rn_A gr, rn_A cr, rn_A ne, rn_A nl, rn_A oe, rn_A ol, rn_A fl, rn_A pc, rn_A ph, rn_A pa, rn_A se, rn_A ls, rn_A mo, rn_A tl, gp, fs) (nI e) (nI n) (nI L) (nI s) := by
  obtain ⟨b1, b2, b3, b4, b5⟩ := ra_edgeB (n := n) (s := s) rfl hn rfl hs
  have ie : vp_in (nI e) 16 := pk_in e 16 he
  have m2 : (2 : Int32) * nI e = nI (2 * e) := pk_mul 2 _
  have yes : ∀ {a b x : Nat}, a ≤ x → x ≤ b → b < 2147483648 → (¬ nI x < nI a ∧ ¬ nI b < nI x) := fun h1 h2 h3 => ⟨nI_nlt h1 (by omega), nI_nlt h2 h3⟩
  have y0 : ∀ {b x : Nat}, x ≤ b → b < 2147483648 → (¬ nI x < 0 ∧ ¬ nI b < nI x) := fun h1 h2 => ⟨nI_pos (by omega), nI_nlt h1 h2⟩
  refine ⟨by decide, nm_r b3 ⟨by decide, by decide, nm_r b4 ?_⟩⟩
  refine ry_in _ _ _ _ (rb_b (fun w => absurd (y0 (b := 15) (by omega) (by omega)) w) (fun _ => ?_))
  refine ry_in _ _ _ _ (rb_b (fun w => absurd (y0 (b := 63) (by omega) (by omega)) w) (fun _ => ?_))
  rw [b2, b1]
  refine ⟨by decide, by decide, br_f (fun w => k1 ((nI_eq (by omega) (by omega)).mp w)) ?_⟩
  refine ry_in _ _ _ _ (rb_b (fun w => absurd (yes (a := 20) (b := 200) hL hL2 (by omega)) w) (fun _ => ?_))
  refine ry_in _ _ _ _ (rb_b (fun w => absurd (y0 (b := 255) (by omega) (by omega)) w) (fun _ => ?_))
  refine ry_in _ _ _ _ (rb_b (fun w => absurd (yes (a := 1) (b := 2) k2 k3 (by omega)) w) (fun _ => ?_))
  refine ry_in _ _ _ _ (rb_b (fun w => absurd (yes (a := 1) (b := 12) k4 k5 (by omega)) w) (fun _ => ?_))
  refine ry_no _ (rI_st I) (rb_b (fun w => absurd k6 w) (fun _ => ?_))
  rw [rn_vb, b5, m2, show nI (2 * e) + 1 = nI (2 * e + 1) from nI_1 _]
  exact ⟨ie, nm_r (rn_uT (x := s % 4) (by omega) (by omega)) ⟨ie, nm_r (rn_uA (x := 1) (by omega)) ⟨by decide, ie, nm_r (rn_uA (by omega)) ⟨by decide, ie, nm_r (rn_uA (by omega)) ⟨ie, nm_r (rn_uA (by omega)) ⟨ie, nm_r (rn_uA (by omega)) ⟨ie, nm_r (rn_uA (by omega)) ⟨by decide, ie, nm_r (rn_uA (by omega)) ⟨ie, nm_r (rn_uA (x := 0) (by omega)) ⟨ie, nm_r (rn_uA (x := 0) (by omega)) ⟨vp_in_nI (by omega) (by omega), nm_r (rn_uA (x := 65535) (by omega)) ⟨vp_in_nI (by omega) (by omega), nm_r (rn_uA (x := 65535) (by omega)) H⟩⟩⟩⟩⟩⟩⟩⟩⟩⟩⟩⟩
/-- a new edge, with no car there -/
theorem rl_edgeE {e n L s : Nat} (hE : (rq_E ln fm tt le li rk we op mk)) (hn : n < 64) (hL : 20 ≤ L) (hL2 : L ≤ 200) (hs : s < 256) (k1 : n / 8 ≠ n % 8) (k2 : 1 ≤ s % 4) (k3 : s % 4 ≤ 2) (k4 : 1 ≤ s / 4 % 16) (k5 : s / 4 % 16 ≤ 12) : (rq_E (ru_p ln e (s % 4)) (ru_p fm e (n / 8)) (ru_p tt e (n % 8)) (ru_p le e L) (ru_p li e (s / 4 % 16)) (ru_p rk e (s / 64)) (ru_p we e 0) (ru_p op e 1) (ru_p (ru_p mk (2 * e) 65535) (2 * e + 1) 65535)) := by
  obtain ⟨h1, h2, h3⟩ := hE
  have hm : ∀ i, ru_p (ru_p mk (2 * e) 65535) (2 * e + 1) 65535 i < 65536 := by
    intro i
    have := (h1 i).2.2.2.2.2.2.2.2
    unfold ru_p
    split
    · omega
    · split <;> omega
  refine ⟨fun i => ?_, fun i => ?_, fun i => ?_⟩
  · have a := h1 i
    have b := hm i
    rcases Nat.decEq i e with q | q
    · rw [ru_n q, ru_n q, ru_n q, ru_n q, ru_n q, ru_n q, ru_n q, ru_n q]
      omega
    · subst q
      rw [ru_s, ru_s, ru_s, ru_s, ru_s, ru_s, ru_s, ru_s]
      omega
  · rcases Nat.decEq i e with q | q
    · rw [ru_n q, ru_n q, ru_n q, ru_n q, ru_n q]; exact h2 i
    · subst q
      rw [ru_s, ru_s, ru_s, ru_s, ru_s]
      intro _
      exact ⟨k1, hL, k4⟩
  · rcases Nat.decEq i e with q | q
    · rw [ru_n q, ru_n q]; exact h3 i
    · subst q
      rw [ru_s, ru_s]
      omega
theorem rl_edgeC {ln' : Nat → Nat} (h : (rq_C ln st ty ed fr sp go tk en ch ps pg cf ct la gr cr ne nl oe ol fl tn N)) (k6 : ¬ ∃ c, c < 32 ∧ st c ≠ 0) : (rq_C ln' st ty ed fr sp go tk en ch ps pg cf ct la gr cr ne nl oe ol fl tn N) ∧ (∀ c, c < 32 → ps c = 0) ∧ (∀ c, c < 32 → pg c = 0) := by
  have z : ∀ c, c < 32 → st c = 0 := by
    intro c hc
    rcases Nat.eq_zero_or_pos (st c) with w | w
    · exact w
    · exact absurd ⟨c, hc, by omega⟩ k6
  refine ⟨⟨h.1, fun c hc => ?_⟩, fun c hc => ((h.2 c hc).2.2.1 (by have := z c hc; omega)).1, fun c hc => ((h.2 c hc).2.2.1 (by have := z c hc; omega)).2.1⟩
  obtain ⟨b1, b2, b3, b4, b5⟩ := h.2 c hc
  have s0 := z c hc
  have p := b3 (by omega)
  refine ⟨fun w => absurd s0 w, fun w => by omega, b3, Or.inl ?_, b5⟩
  rcases b4 with w | w
  · exact w
  · omega
end
theorem i_vc_edge {k : Nat} {u : SX} {v : SY} (I : i_Rel k u v) (hk : k + 5 ≤ 2560) (v1 : Int32) (v2 : Int32) (v3 : Int32) (v4 : Int32) : wpX_edge (fun r u' => wpY_edge (fun r' v' => r' = r ∧ i_Rel (k + 5) u' v') v v1 v2 v3 v4) u v1 v2 v3 v4 := by
  obtain ⟨ln, fm, tt, le, li, rk, we, op, ca, mk, wd, wn, fa, pc, ph, pa, pe, pt, se, ls, mo, tp, ac, sz, dw, st, ty, ed, fr, sp, go, nz, tk, en, ch, nw, ps, pg, cf, ct, la, gr, cr, ne, nl, oe, ol, fl, tl, tn, kn, N, th, gp, fs, rfl, rfl, I, hW, hN, ht⟩ := I
  rcases Classical.em (ra_edge st v1 v2 v3 v4) with ⟨e, n, L, s, rfl, he, rfl, hn, rfl, hL, hL2, rfl, hs, k1, k2, k3, k4, k5, k6⟩ | hn
  · have E1 := rl_edgeE (e := e) I.1.1 hn hL hL2 hs k1 k2 k3 k4 k5
    obtain ⟨c1, c2, c3⟩ := rl_edgeC (ln' := ru_p ln e (s % 4)) I.1.2.1 k6
    exact rx_edgeA _ I.1 he hn hL hL2 hs k1 k2 k3 k4 k5 k6 E1 (fun wd wn hX => ry_edgeA _ I.1 he hn hL hL2 hs k1 k2 k3 k4 k5 k6 ⟨rfl, rl_rel (kn := 0) ⟨⟨E1, c1, I.1.2.2.1, I.1.2.2.2.1, hX, I.1.2.2.2.2.2⟩, rd_none c2 c3⟩ (Or.inl rfl) (by omega) (by omega)⟩)
  · exact rx_edgeN _ I.1 hn (ry_edgeN _ I.1 hn ⟨rfl, rl_rel I hW (by omega) (by omega)⟩)
end
section
/-! connect, weight, phase -/
theorem ru_id {T : Nat → Nat} {e : Nat} : ru_p T e (T e) = T := by
  funext j
  unfold ru_p
  by_cases h : j = e
  · rw [if_pos h, h]
  · rw [if_neg h]
def ra_conn (ln : Nat → Nat) (p0 p1 p2 : Int32) : Prop := ∃ e l m : Nat, p0 = nI e ∧ p1 = nI l ∧ p2 = nI m ∧ e < 16 ∧ l < ln e ∧ m < 65536
section
variable {ln fm tt le li rk we op ca mk wd wn fa pc ph pa pe pt se ls mo tp ac sz dw st ty ed fr sp go nz tk en ch nw ps pg cf ct la gr cr ne nl oe ol fl tl : Nat → Nat} {tn kn N : Nat} {th : Int32} {gp fs : Nat → Int32}
theorem rx_connN (post : Int32 → SX → Prop) {p0 p1 p2 : Int32} (I : (rq_L ln fm tt le li rk we op mk wd wn pc ph pa pe pt se ls mo tp ac sz dw st ty ed fr sp go tk en ch ps pg cf ct la gr cr ne nl oe ol fl tl tn N)) (hn : ¬ ra_conn ln p0 p1 p2) (h : post 0 (nI tn, rn_A ln, rn_A fm, rn_A tt, rn_A le, rn_A li, rn_A rk, rn_A we, rn_A op, rn_A ca, rn_A mk, rn_B wd, rn_B wn, rn_A pc, rn_A ph, rn_A pa, rn_A pe, rn_A pt, rn_A tp, rn_A ac, rn_A sz, rn_A dw, rn_A st, rn_A ty, rn_A ed, rn_B ps, rn_A fr, rn_A sp, rn_A go, rn_A nz, rn_B pg, rn_B cf, rn_B ct, rn_A tk, rn_A en, rn_B ch, rn_A nw, rn_A tl)) : wpX_connect post (nI tn, rn_A ln, rn_A fm, rn_A tt, rn_A le, rn_A li, rn_A rk, rn_A we, rn_A op, rn_A ca, rn_A mk, rn_B wd, rn_B wn, rn_A pc, rn_A ph, rn_A pa, rn_A pe, rn_A pt, rn_A tp, rn_A ac, rn_A sz, rn_A dw, rn_A st, rn_A ty, rn_A ed, rn_B ps, rn_A fr, rn_A sp, rn_A go, rn_A nz, rn_B pg, rn_B cf, rn_B ct, rn_A tk, rn_A en, rn_B ch, rn_A nw, rn_A tl) p0 p1 p2 := by
  unfold wpX_connect
  refine rx_il _ _ _ (fun e => (rI_e I e).1) (rb_b (fun _ => h) (fun ⟨e, l, e1, e2, e3, e4⟩ => br_c (fun _ => h) (fun k1 => br_c (fun k2 => ?_) (fun _ => h))))
  obtain ⟨m, q2, _, hm⟩ := rn_rg (a := 0) (b := 65535) (by omega) (by omega) k1 (Int32.not_lt.mpr k2)
  exact absurd ⟨e, l, m, e2, e3, q2, e1, e4, by omega⟩ hn
theorem ry_connN (post : Int32 → SY → Prop) {p0 p1 p2 : Int32} (I : (rq_L ln fm tt le li rk we op mk wd wn pc ph pa pe pt se ls mo tp ac sz dw st ty ed fr sp go tk en ch ps pg cf ct la gr cr ne nl oe ol fl tl tn N)) (hn : ¬ ra_conn ln p0 p1 p2) (h : post 0 (nI kn, nI tn, th, rn_T ln, rn_A op, rn_A fm, rn_A tt, rn_A le, rn_A ln, rn_A li, rn_A rk, rn_A we, rn_A ca, rn_A mk, rn_A fa, rn_A tp, rn_A ac, rn_A sz, rn_A dw, rn_A st, rn_A ty, rn_A ed, rn_A la, rn_A fr, rn_A sp, rn_A go, rn_A nz, rn_A tk, rn_C ch, rn_A en, rn_A nw, rn_A gr, rn_A cr, rn_A ne, rn_A nl, rn_A oe, rn_A ol, rn_A fl, rn_A pc, rn_A ph, rn_A pa, rn_A se, rn_A ls, rn_A mo, rn_A tl, gp, fs)) : wpY_connect post (nI kn, nI tn, th, rn_T ln, rn_A op, rn_A fm, rn_A tt, rn_A le, rn_A ln, rn_A li, rn_A rk, rn_A we, rn_A ca, rn_A mk, rn_A fa, rn_A tp, rn_A ac, rn_A sz, rn_A dw, rn_A st, rn_A ty, rn_A ed, rn_A la, rn_A fr, rn_A sp, rn_A go, rn_A nz, rn_A tk, rn_C ch, rn_A en, rn_A nw, rn_A gr, rn_A cr, rn_A ne, rn_A nl, rn_A oe, rn_A ol, rn_A fl, rn_A pc, rn_A ph, rn_A pa, rn_A se, rn_A ls, rn_A mo, rn_A tl, gp, fs) p0 p1 p2 := by
  unfold wpY_connect
  refine ry_ie _ _ (rb_b (fun _ => h) (fun ⟨e, e1, e2, e3⟩ => ?_))
  subst e2
  have A := rI_e I e
  refine ⟨pk_in e 16 e1, ?_⟩
  rw [rn_rA (by omega), show (1 : Int32) = nI 1 from rfl, pk_sub (by omega)]
  refine ry_in _ _ _ _ (rb_b (fun _ => h) (fun k1 => ry_in _ _ _ _ (rb_b (fun _ => h) (fun k2 => ?_))))
  obtain ⟨l, q1, _, hl⟩ := rn_rg (a := 0) (b := ln e - 1) (by omega) (by omega) k1.1 k1.2
  obtain ⟨m, q2, _, hm⟩ := rn_rg (a := 0) (b := 65535) (by omega) (by omega) k2.1 k2.2
  exact absurd ⟨e, l, m, rfl, q1, q2, e1, by omega, by omega⟩ hn
theorem rx_connA (post : Int32 → SX → Prop) {e l m : Nat} (I : (rq_L ln fm tt le li rk we op mk wd wn pc ph pa pe pt se ls mo tp ac sz dw st ty ed fr sp go tk en ch ps pg cf ct la gr cr ne nl oe ol fl tl tn N)) (he : e < 16) (hl : l < ln e) (hm : m < 65536) (hE : (rq_E ln fm tt le li rk we op (ru_p mk (2 * e + l) m))) (H : ∀ wd wn, (rq_WX ln fm tt le li we op (ru_p mk (2 * e + l) m) wd wn) → post 1 (nI tn, rn_A ln, rn_A fm, rn_A tt, rn_A le, rn_A li, rn_A rk, rn_A we, rn_A op, rn_A ca, rn_A (ru_p mk (2 * e + l) m), rn_B wd, rn_B wn, rn_A pc, rn_A ph, rn_A pa, rn_A pe, rn_A pt, rn_A tp, rn_A ac, rn_A sz, rn_A dw, rn_A st, rn_A ty, rn_A ed, rn_B ps, rn_A fr, rn_A sp, rn_A go, rn_A nz, rn_B pg, rn_B cf, rn_B ct, rn_A tk, rn_A en, rn_B ch, rn_A nw, rn_A tl)) : wpX_connect post (nI tn, rn_A ln, rn_A fm, rn_A tt, rn_A le, rn_A li, rn_A rk, rn_A we, rn_A op, rn_A ca, rn_A mk, rn_B wd, rn_B wn, rn_A pc, rn_A ph, rn_A pa, rn_A pe, rn_A pt, rn_A tp, rn_A ac, rn_A sz, rn_A dw, rn_A st, rn_A ty, rn_A ed, rn_B ps, rn_A fr, rn_A sp, rn_A go, rn_A nz, rn_B pg, rn_B cf, rn_B ct, rn_A tk, rn_A en, rn_B ch, rn_A nw, rn_A tl) (nI e) (nI l) (nI m) := by
  have A := rI_e I e
  unfold wpX_connect
  refine rx_il _ _ _ (fun e => (rI_e I e).1) (rb_b (fun w => absurd ⟨e, l, he, rfl, rfl, hl⟩ w) (fun _ => br_f (nI_pos (by omega)) (br_t (nI_le (b := 65535) (by omega) (by decide)) ?_)))
  rw [show (2 : Int32) * nI e = nI (2 * e) from pk_mul 2 _, nI_add]
  exact ⟨vp_in_nI (by omega) (by omega), nm_r (rn_uA (by omega)) (rx_ways _ hE H)⟩
theorem ry_connA (post : Int32 → SY → Prop) {e l m : Nat} (I : (rq_L ln fm tt le li rk we op mk wd wn pc ph pa pe pt se ls mo tp ac sz dw st ty ed fr sp go tk en ch ps pg cf ct la gr cr ne nl oe ol fl tl tn N)) (he : e < 16) (hl : l < ln e) (hm : m < 65536) (H : post 1 (nI 0, nI tn, th, rn_T ln, rn_A op, rn_A fm, rn_A tt, rn_A le, rn_A ln, rn_A li, rn_A rk, rn_A we, rn_A ca, rn_A (ru_p mk (2 * e + l) m), rn_A fa, rn_A tp, rn_A ac, rn_A sz, rn_A dw, rn_A st, rn_A ty, rn_A ed, rn_A la, rn_A fr, rn_A sp, rn_A go, rn_A nz, rn_A tk, rn_C ch, rn_A en, rn_A nw, rn_A gr, rn_A cr, rn_A ne, rn_A nl, rn_A oe, rn_A ol, rn_A fl, rn_A pc, rn_A ph, rn_A pa, rn_A se, rn_A ls, rn_A mo, rn_A tl, gp, fs)) : wpY_connect post (nI kn, nI tn, th, rn_T ln, rn_A op, rn_A fm, rn_A tt, rn_A le, rn_A ln, rn_A li, rn_A rk, rn_A we, rn_A ca, rn_A mk, rn_A fa, rn_A tp, rn_A ac, rn_A sz, rn_A dw, rn_A st, rn_A ty, rn_A ed, rn_A la, rn_A fr, rn_A sp, rn_A go, rn_A nz, rn_A tk, rn_C ch, rn_A en, rn_A nw, rn_A gr, rn_A cr, rn_A ne, rn_A nl, rn_A oe, rn_A ol, rn_A fl, rn_A pc, rn_A ph, rn_A pa, rn_A se, rn_A ls, rn_A mo, rn_A tl, gp, fs) (nI e) (nI l) (nI m) := by
  have A := rI_e I e
  unfold wpY_connect
  refine ry_ie _ _ (rb_b (fun w => absurd ⟨e, he, rfl, by omega⟩ w) (fun _ => ⟨pk_in e 16 he, ?_⟩))
  rw [rn_rA (by omega), show (1 : Int32) = nI 1 from rfl, pk_sub (by omega)]
  refine ry_in _ _ _ _ (rb_b (fun w => absurd ⟨nI_pos (by omega), nI_nlt (b := l) (by omega) (by omega)⟩ w) (fun _ => ry_in _ _ _ _ (rb_b (fun w => absurd ⟨nI_pos (by omega), nI_nlt (a := 65535) (b := m) (by omega) (by decide)⟩ w) (fun _ => ?_))))
  rw [show (2 : Int32) * nI e = nI (2 * e) from pk_mul 2 _, nI_add]
  exact ⟨vp_in_nI (by omega) (by omega), nm_r (rn_uA (by omega)) H⟩
theorem rl_connE {s m : Nat} (hE : (rq_E ln fm tt le li rk we op mk)) (hm : m < 65536) : (rq_E ln fm tt le li rk we op (ru_p mk s m)) := by
  obtain ⟨h1, h2, h3⟩ := hE
  refine ⟨fun i => ?_, h2, h3⟩
  have a := h1 i
  rcases Nat.decEq i s with q | q
  · rw [ru_n q]; exact a
  · subst q; rw [ru_s]; omega
end
theorem i_vc_connect {k : Nat} {u : SX} {v : SY} (I : i_Rel k u v) (hk : k + 5 ≤ 2560) (v1 : Int32) (v2 : Int32) (v3 : Int32) : wpX_connect (fun r u' => wpY_connect (fun r' v' => r' = r ∧ i_Rel (k + 5) u' v') v v1 v2 v3) u v1 v2 v3 := by
  obtain ⟨ln, fm, tt, le, li, rk, we, op, ca, mk, wd, wn, fa, pc, ph, pa, pe, pt, se, ls, mo, tp, ac, sz, dw, st, ty, ed, fr, sp, go, nz, tk, en, ch, nw, ps, pg, cf, ct, la, gr, cr, ne, nl, oe, ol, fl, tl, tn, kn, N, th, gp, fs, rfl, rfl, I, hW, hN, ht⟩ := I
  rcases Classical.em (ra_conn ln v1 v2 v3) with ⟨e, l, m, rfl, rfl, rfl, he, hl, hm⟩ | hn
  · have E1 := rl_connE (s := 2 * e + l) I.1.1 hm
    exact rx_connA _ I.1 he hl hm E1 (fun wd wn hX => ry_connA _ I.1 he hl hm ⟨rfl, rl_rel (kn := 0) ⟨⟨E1, I.1.2.1, I.1.2.2.1, I.1.2.2.2.1, hX, I.1.2.2.2.2.2⟩, I.2⟩ (Or.inl rfl) (by omega) (by omega)⟩)
  · exact rx_connN _ I.1 hn (ry_connN _ I.1 hn ⟨rfl, rl_rel I hW (by omega) (by omega)⟩)
/-! weight -/
theorem rn_neg1 {x : Int32} (h1 : ¬ x < -1) (h2 : x < 0) : x = -1 := by
  rw [Int32.lt_iff_toInt_lt, show (-1 : Int32).toInt = -1 from by decide] at h1
  rw [Int32.lt_iff_toInt_lt, show (0 : Int32).toInt = 0 from by decide] at h2
  apply Int32.toInt_inj.mp
  rw [show (-1 : Int32).toInt = -1 from by decide]
  omega
def ra_wt (ln : Nat → Nat) (p0 p1 : Int32) : Prop := (∃ e : Nat, p0 = nI e ∧ e < 16 ∧ 0 < ln e ∧ p1 = -1) ∨ (∃ e w : Nat, p0 = nI e ∧ e < 16 ∧ 0 < ln e ∧ p1 = nI w ∧ w ≤ 1000)
theorem rn_vb0 : vp_nar .boolean 0 = 0 := rfl
section
variable {ln fm tt le li rk we op ca mk wd wn fa pc ph pa pe pt se ls mo tp ac sz dw st ty ed fr sp go nz tk en ch nw ps pg cf ct la gr cr ne nl oe ol fl tl : Nat → Nat} {tn kn N : Nat} {th : Int32} {gp fs : Nat → Int32}
theorem ra_wtI {e : Nat} {x p1 : Int32} (he : e < 16) (ht : 0 < ln e) (hx : x = nI e) (h1 : ¬ p1 < -1) (h2 : p1 ≤ 1000) : ra_wt ln x p1 := by
  subst hx
  by_cases h : p1 < 0
  · exact Or.inl ⟨e, rfl, he, ht, rn_neg1 h1 h⟩
  · obtain ⟨w, q, _, hw⟩ := rn_rg (a := 0) (b := 1000) (by omega) (by omega) h (Int32.not_lt.mpr h2)
    exact Or.inr ⟨e, w, rfl, he, ht, q, hw⟩
theorem rx_wtN (post : Int32 → SX → Prop) {p0 p1 : Int32} (I : (rq_L ln fm tt le li rk we op mk wd wn pc ph pa pe pt se ls mo tp ac sz dw st ty ed fr sp go tk en ch ps pg cf ct la gr cr ne nl oe ol fl tl tn N)) (hn : ¬ ra_wt ln p0 p1) (h : post 0 (nI tn, rn_A ln, rn_A fm, rn_A tt, rn_A le, rn_A li, rn_A rk, rn_A we, rn_A op, rn_A ca, rn_A mk, rn_B wd, rn_B wn, rn_A pc, rn_A ph, rn_A pa, rn_A pe, rn_A pt, rn_A tp, rn_A ac, rn_A sz, rn_A dw, rn_A st, rn_A ty, rn_A ed, rn_B ps, rn_A fr, rn_A sp, rn_A go, rn_A nz, rn_B pg, rn_B cf, rn_B ct, rn_A tk, rn_A en, rn_B ch, rn_A nw, rn_A tl)) : wpX_weight post (nI tn, rn_A ln, rn_A fm, rn_A tt, rn_A le, rn_A li, rn_A rk, rn_A we, rn_A op, rn_A ca, rn_A mk, rn_B wd, rn_B wn, rn_A pc, rn_A ph, rn_A pa, rn_A pe, rn_A pt, rn_A tp, rn_A ac, rn_A sz, rn_A dw, rn_A st, rn_A ty, rn_A ed, rn_B ps, rn_A fr, rn_A sp, rn_A go, rn_A nz, rn_B pg, rn_B cf, rn_B ct, rn_A tk, rn_A en, rn_B ch, rn_A nw, rn_A tl) p0 p1 := by
  unfold wpX_weight
  exact rx_ie _ _ (fun e => (rI_e I e).1) (rb_b (fun _ => h) (fun ⟨e, e1, e2, e3⟩ => br_c (fun _ => h) (fun k1 => br_c (fun k2 => absurd (ra_wtI e1 e3 e2 k1 k2) hn) (fun _ => h))))
theorem ry_wtN (post : Int32 → SY → Prop) {p0 p1 : Int32} (hn : ¬ ra_wt ln p0 p1) (h : post 0 (nI kn, nI tn, th, rn_T ln, rn_A op, rn_A fm, rn_A tt, rn_A le, rn_A ln, rn_A li, rn_A rk, rn_A we, rn_A ca, rn_A mk, rn_A fa, rn_A tp, rn_A ac, rn_A sz, rn_A dw, rn_A st, rn_A ty, rn_A ed, rn_A la, rn_A fr, rn_A sp, rn_A go, rn_A nz, rn_A tk, rn_C ch, rn_A en, rn_A nw, rn_A gr, rn_A cr, rn_A ne, rn_A nl, rn_A oe, rn_A ol, rn_A fl, rn_A pc, rn_A ph, rn_A pa, rn_A se, rn_A ls, rn_A mo, rn_A tl, gp, fs)) : wpY_weight post (nI kn, nI tn, th, rn_T ln, rn_A op, rn_A fm, rn_A tt, rn_A le, rn_A ln, rn_A li, rn_A rk, rn_A we, rn_A ca, rn_A mk, rn_A fa, rn_A tp, rn_A ac, rn_A sz, rn_A dw, rn_A st, rn_A ty, rn_A ed, rn_A la, rn_A fr, rn_A sp, rn_A go, rn_A nz, rn_A tk, rn_C ch, rn_A en, rn_A nw, rn_A gr, rn_A cr, rn_A ne, rn_A nl, rn_A oe, rn_A ol, rn_A fl, rn_A pc, rn_A ph, rn_A pa, rn_A se, rn_A ls, rn_A mo, rn_A tl, gp, fs) p0 p1 := by
  unfold wpY_weight
  exact ry_ie _ _ (rb_b (fun _ => h) (fun ⟨e, e1, e2, e3⟩ => ry_in _ _ _ _ (rb_b (fun _ => h) (fun k => absurd (ra_wtI e1 e3 e2 k.1 (Int32.not_lt.mp k.2)) hn))))
theorem rl_wtE {e w o : Nat} (hE : (rq_E ln fm tt le li rk we op mk)) (ho : o ≤ 1) (hw : w ≤ 1000) (ht : 0 < ln e) : (rq_E ln fm tt le li rk (ru_p we e w) (ru_p op e o) mk) := by
  obtain ⟨h1, h2, h3⟩ := hE
  refine ⟨fun i => ?_, h2, fun i hi => ?_⟩
  · have a := h1 i
    rcases Nat.decEq i e with q | q
    · rw [ru_n q, ru_n q]; exact a
    · subst q; rw [ru_s, ru_s]; omega
  · rcases Nat.decEq i e with q | q
    · rw [ru_n q]; exact h3 i hi
    · subst q; omega
end
theorem i_vc_weight {k : Nat} {u : SX} {v : SY} (I : i_Rel k u v) (hk : k + 5 ≤ 2560) (v1 : Int32) (v2 : Int32) : wpX_weight (fun r u' => wpY_weight (fun r' v' => r' = r ∧ i_Rel (k + 5) u' v') v v1 v2) u v1 v2 := by
  obtain ⟨ln, fm, tt, le, li, rk, we, op, ca, mk, wd, wn, fa, pc, ph, pa, pe, pt, se, ls, mo, tp, ac, sz, dw, st, ty, ed, fr, sp, go, nz, tk, en, ch, nw, ps, pg, cf, ct, la, gr, cr, ne, nl, oe, ol, fl, tl, tn, kn, N, th, gp, fs, rfl, rfl, I, hW, hN, ht⟩ := I
  have hl : ∀ e, ln e ≤ 2 := fun e => (rI_e I.1 e).1
  rcases Classical.em (ra_wt ln v1 v2) with hy | hn
  · rcases hy with ⟨e, rfl, he, hte, rfl⟩ | ⟨e, w, rfl, he, hte, rfl, hw⟩
    · have E1 := rl_wtE (w := we e) (o := 0) I.1.1 (by omega) (by have := rI_e I.1 e; omega) hte
      rw [ru_id] at E1
      unfold wpX_weight
      refine rx_ie _ _ hl (rb_b (fun z => absurd ⟨e, he, rfl, hte⟩ z) (fun _ => br_f (by decide) (br_t (by decide) (br_t (by decide) ⟨pk_in e 16 he, nm_r (e' := rn_A (ru_p op e 0)) (rn_uA (x := 0) (by omega)) (br_t (by decide) (rx_ways _ E1 (fun wd wn hX => ?_)))⟩))))
      unfold wpY_weight
      refine ry_ie _ _ (rb_b (fun z => absurd ⟨e, he, rfl, hte⟩ z) (fun _ => ry_in _ _ _ _ (rb_b (fun z => absurd ⟨by decide, by decide⟩ z) (fun _ => br_t (by decide) ⟨pk_in e 16 he, nm_r (e' := rn_A (ru_p op e 0)) (rn_uA (x := 0) (by omega)) (br_t (by decide) ?_)⟩))))
      exact ⟨rfl, rl_rel (kn := 0) ⟨⟨E1, I.1.2.1, I.1.2.2.1, I.1.2.2.2.1, hX, I.1.2.2.2.2.2⟩, I.2⟩ (Or.inl rfl) (by omega) (by omega)⟩
    · have E1 := rl_wtE (w := w) (o := 1) I.1.1 (by omega) hw hte
      have n0 : ¬ nI w < 0 := nI_pos (by omega)
      have n1 : ¬ nI w < -1 := by
        intro z
        rw [Int32.lt_iff_toInt_lt, nI_toInt (by omega), show (-1 : Int32).toInt = -1 from by decide] at z
        omega
      unfold wpX_weight
      refine rx_ie _ _ hl (rb_b (fun z => absurd ⟨e, he, rfl, hte⟩ z) (fun _ => br_f n1 (br_t (nI_le (b := 1000) hw (by decide)) (br_f n0 ⟨pk_in e 16 he, nm_r (e' := rn_A (ru_p op e 1)) (rn_uA (x := 1) (by omega)) (br_f n0 ⟨pk_in e 16 he, nm_r (rn_uA (by omega)) (rx_ways _ E1 (fun wd wn hX => ?_))⟩)⟩))))
      unfold wpY_weight
      refine ry_ie _ _ (rb_b (fun z => absurd ⟨e, he, rfl, hte⟩ z) (fun _ => ry_in _ _ _ _ (rb_b (fun z => absurd ⟨n1, nI_nlt (a := 1000) hw (by decide)⟩ z) (fun _ => br_f n0 ⟨pk_in e 16 he, nm_r (e' := rn_A (ru_p op e 1)) (rn_uA (x := 1) (by omega)) (br_f n0 ⟨pk_in e 16 he, nm_r (rn_uA (by omega)) ?_⟩)⟩))))
      exact ⟨rfl, rl_rel (kn := 0) ⟨⟨E1, I.1.2.1, I.1.2.2.1, I.1.2.2.2.1, hX, I.1.2.2.2.2.2⟩, I.2⟩ (Or.inl rfl) (by omega) (by omega)⟩
  · exact rx_wtN _ I.1 hn (ry_wtN _ hn ⟨rfl, rl_rel I hW (by omega) (by omega)⟩)
/-! phase -/
def ra_ph (pc : Nat → Nat) (p0 p1 p2 p3 : Int32) : Prop := ∃ j k e t : Nat, p0 = nI j ∧ j < 8 ∧ p1 = nI k ∧ k < 4 ∧ k ≤ pc j ∧ p2 = nI e ∧ e < 65536 ∧ p3 = nI t ∧ (t = 0 ∨ (0 < t ∧ t ≤ 9999 ∧ 1 ≤ t % 100 ∧ t % 100 ≤ t / 100))
theorem rn_100 {t : Nat} (h : t < 65536) : nI t - nI t / 100 * 100 = nI (t % 100) ∧ nI t / 100 = nI (t / 100) := ⟨pk_rem (d := 100) (by omega) (by omega) (by omega), pk_div (d := 100) (by omega) (by omega) (by omega)⟩
section
variable {ln fm tt le li rk we op ca mk wd wn fa pc ph pa pe pt se ls mo tp ac sz dw st ty ed fr sp go nz tk en ch nw ps pg cf ct la gr cr ne nl oe ol fl tl : Nat → Nat} {tn kn N : Nat} {th : Int32} {gp fs : Nat → Int32}
theorem rx_phN (post : Int32 → SX → Prop) {p0 p1 p2 p3 : Int32} (I : (rq_L ln fm tt le li rk we op mk wd wn pc ph pa pe pt se ls mo tp ac sz dw st ty ed fr sp go tk en ch ps pg cf ct la gr cr ne nl oe ol fl tl tn N)) (hn : ¬ ra_ph pc p0 p1 p2 p3) (h : post 0 (nI tn, rn_A ln, rn_A fm, rn_A tt, rn_A le, rn_A li, rn_A rk, rn_A we, rn_A op, rn_A ca, rn_A mk, rn_B wd, rn_B wn, rn_A pc, rn_A ph, rn_A pa, rn_A pe, rn_A pt, rn_A tp, rn_A ac, rn_A sz, rn_A dw, rn_A st, rn_A ty, rn_A ed, rn_B ps, rn_A fr, rn_A sp, rn_A go, rn_A nz, rn_B pg, rn_B cf, rn_B ct, rn_A tk, rn_A en, rn_B ch, rn_A nw, rn_A tl)) : wpX_phase post (nI tn, rn_A ln, rn_A fm, rn_A tt, rn_A le, rn_A li, rn_A rk, rn_A we, rn_A op, rn_A ca, rn_A mk, rn_B wd, rn_B wn, rn_A pc, rn_A ph, rn_A pa, rn_A pe, rn_A pt, rn_A tp, rn_A ac, rn_A sz, rn_A dw, rn_A st, rn_A ty, rn_A ed, rn_B ps, rn_A fr, rn_A sp, rn_A go, rn_A nz, rn_B pg, rn_B cf, rn_B ct, rn_A tk, rn_A en, rn_B ch, rn_A nw, rn_A tl) p0 p1 p2 p3 := by
  refine br_c (fun _ => h) (fun k0 => br_c (fun _ => h) (fun k1 => br_c (fun _ => h) (fun k2 => br_c (fun _ => h) (fun k3 => ?_))))
  obtain ⟨j, hj, rfl⟩ := rn_16 (M := 8) (by omega) k0 k1
  obtain ⟨k, hk, rfl⟩ := rn_16 (M := 4) (by omega) k2 k3
  have P := (I.2.2.1 j hj).1
  refine ⟨pk_in j 8 hj, pk_le k (pc j) (fun k4 => br_c (fun _ => h) (fun k5 => br_c (fun k6 => ?_) (fun _ => h))) (fun _ => h) rfl (rn_rA (by omega))⟩
  obtain ⟨e, rfl, _, he⟩ := rn_rg (a := 0) (b := 65535) (by omega) (by omega) k5 (Int32.not_lt.mpr k6)
  refine br_c (fun k7 => absurd ⟨j, k, e, 0, rfl, hj, rfl, hk, k4, rfl, by omega, k7, Or.inl rfl⟩ hn) (fun k7 => br_c (fun _ => h) (fun k8 => br_c (fun _ => h) (fun k9 => ⟨by decide, ?_⟩)))
  obtain ⟨t, rfl, _, ht⟩ := rn_rg (a := 0) (b := 9999) (by omega) (by omega) k8 k9
  obtain ⟨b1, b2⟩ := rn_100 (t := t) (by omega)
  rw [b1, b2]
  refine pk_lt (t % 100) 1 (fun _ => h) (fun k10 => ⟨by decide, by decide, pk_le (t % 100) (t / 100) (fun k11 => ?_) (fun _ => h)⟩)
  refine absurd ⟨j, k, e, t, rfl, hj, rfl, hk, k4, rfl, by omega, rfl, Or.inr ⟨?_, ht, k10, k11⟩⟩ hn
  rcases Nat.eq_zero_or_pos t with z | z
  · subst z; exact absurd rfl k7
  · exact z
theorem ry_phN (post : Int32 → SY → Prop) {p0 p1 p2 p3 : Int32} (I : (rq_L ln fm tt le li rk we op mk wd wn pc ph pa pe pt se ls mo tp ac sz dw st ty ed fr sp go tk en ch ps pg cf ct la gr cr ne nl oe ol fl tl tn N)) (hn : ¬ ra_ph pc p0 p1 p2 p3) (h : post 0 (nI kn, nI tn, th, rn_T ln, rn_A op, rn_A fm, rn_A tt, rn_A le, rn_A ln, rn_A li, rn_A rk, rn_A we, rn_A ca, rn_A mk, rn_A fa, rn_A tp, rn_A ac, rn_A sz, rn_A dw, rn_A st, rn_A ty, rn_A ed, rn_A la, rn_A fr, rn_A sp, rn_A go, rn_A nz, rn_A tk, rn_C ch, rn_A en, rn_A nw, rn_A gr, rn_A cr, rn_A ne, rn_A nl, rn_A oe, rn_A ol, rn_A fl, rn_A pc, rn_A ph, rn_A pa, rn_A se, rn_A ls, rn_A mo, rn_A tl, gp, fs)) : wpY_phase post (nI kn, nI tn, th, rn_T ln, rn_A op, rn_A fm, rn_A tt, rn_A le, rn_A ln, rn_A li, rn_A rk, rn_A we, rn_A ca, rn_A mk, rn_A fa, rn_A tp, rn_A ac, rn_A sz, rn_A dw, rn_A st, rn_A ty, rn_A ed, rn_A la, rn_A fr, rn_A sp, rn_A go, rn_A nz, rn_A tk, rn_C ch, rn_A en, rn_A nw, rn_A gr, rn_A cr, rn_A ne, rn_A nl, rn_A oe, rn_A ol, rn_A fl, rn_A pc, rn_A ph, rn_A pa, rn_A se, rn_A ls, rn_A mo, rn_A tl, gp, fs) p0 p1 p2 p3 := by
  unfold wpY_phase
  refine ry_in _ _ _ _ (rb_b (fun _ => h) (fun k0 => ry_in _ _ _ _ (rb_b (fun _ => h) (fun k2 => ?_))))
  obtain ⟨j, rfl, _, hj⟩ := rn_rg (a := 0) (b := 7) (by omega) (by omega) k0.1 k0.2
  obtain ⟨k, rfl, _, hk⟩ := rn_rg (a := 0) (b := 3) (by omega) (by omega) k2.1 k2.2
  have P := (I.2.2.1 j (by omega)).1
  refine ⟨vp_in_nI (by omega) (by omega), pk_lt (pc j) k (fun _ => h) (fun k4 => ry_in _ _ _ _ (rb_b (fun _ => h) (fun k5 => ⟨by decide, fun x5 e5 => ⟨by decide, fun x6 e6 => ?_⟩⟩))) (rn_rA (by omega))⟩
  obtain ⟨e, rfl, _, he⟩ := rn_rg (a := 0) (b := 65535) (by omega) (by omega) k5.1 k5.2
  refine br_c (fun k7 => absurd ⟨j, k, e, 0, rfl, by omega, rfl, by omega, k4, rfl, by omega, k7, Or.inl rfl⟩ hn) (fun k7 => ry_in _ _ _ _ (rb_b (fun _ => h) (fun k8 => ?_)))
  obtain ⟨t, rfl, _, ht⟩ := rn_rg (a := 0) (b := 9999) (by omega) (by omega) k8.1 k8.2
  obtain ⟨b1, b2⟩ := rn_100 (t := t) (by omega)
  rw [b1] at e5
  rw [b2] at e6
  subst e5 e6
  refine pk_lt (t % 100) 1 (fun _ => h) (fun k10 => pk_le (t % 100) (t / 100) (fun k11 => ?_) (fun _ => h))
  refine absurd ⟨j, k, e, t, rfl, by omega, rfl, by omega, k4, rfl, by omega, rfl, Or.inr ⟨?_, ht, k10, k11⟩⟩ hn
  rcases Nat.eq_zero_or_pos t with z | z
  · subst z; exact absurd rfl k7
  · exact z
/-- what a phase that is set keeps -/
theorem rl_phP {j k e t n : Nat} (h : (rq_P pc ph pa pe pt se ls mo N)) (hj : j < 8) (hk : k < 4) (hkc : k ≤ pc j) (he : e < 65536) (ht : t ≤ 9999) (hn : n ≤ 4) (hn2 : n = k ∨ (k < n ∧ (n = k + 1 ∨ n = pc j))) : (rq_P (ru_p pc j n) (ru_p ph j 0) (ru_p pa j 0) (ru_p pe (4 * j + k) e) (ru_p pt (4 * j + k) t) (ru_p se (4 * j + k) e) (ru_p ls (4 * j + k) (t % 100)) (ru_p mo (4 * j + k) (t / 100)) N) := by
  intro i hi
  obtain ⟨b1, b2, b3, b4, b5⟩ := h i hi
  rcases Nat.decEq i j with z | z
  · rw [ru_n z, ru_n z, ru_n z]
    refine ⟨b1, b2, b3, b4, fun m hm => ?_⟩
    have q : 4 * i + m ≠ 4 * j + k := by omega
    rw [ru_n q, ru_n q, ru_n q, ru_n q, ru_n q]
    exact b5 m hm
  · subst z
    rw [ru_s, ru_s, ru_s]
    refine ⟨hn, fun _ => ⟨rfl, rfl⟩, fun w => w, by omega, fun m hm => ?_⟩
    rcases Nat.decEq m k with q | q
    · have q' : 4 * i + m ≠ 4 * i + k := by omega
      rw [ru_n q', ru_n q', ru_n q', ru_n q', ru_n q']
      exact b5 m (by omega)
    · subst q
      rw [ru_s, ru_s, ru_s, ru_s, ru_s]
      exact ⟨rfl, he, by omega, by omega, by omega⟩
/-- the same, where X's slot isn't written -/
theorem rl_phZ {j k e : Nat} (h : (rq_P pc ph pa pe pt se ls mo N)) (hj : j < 8) (hk : k < 4) (hkc : k ≤ pc j) : (rq_P (ru_p pc j k) (ru_p ph j 0) (ru_p pa j 0) pe pt (ru_p se (4 * j + k) e) (ru_p ls (4 * j + k) 0) (ru_p mo (4 * j + k) 0) N) := by
  intro i hi
  obtain ⟨b1, b2, b3, b4, b5⟩ := h i hi
  rcases Nat.decEq i j with z | z
  · rw [ru_n z, ru_n z, ru_n z]
    refine ⟨b1, b2, b3, b4, fun m hm => ?_⟩
    have q : 4 * i + m ≠ 4 * j + k := by omega
    rw [ru_n q, ru_n q, ru_n q]
    exact b5 m hm
  · subst z
    rw [ru_s, ru_s, ru_s]
    refine ⟨by omega, fun _ => ⟨rfl, rfl⟩, fun w => w, by omega, fun m hm => ?_⟩
    have q' : 4 * i + m ≠ 4 * i + k := by omega
    rw [ru_n q', ru_n q', ru_n q']
    exact b5 m (by omega)
theorem rx_phA (post : Int32 → SX → Prop) {j k e t : Nat} (I : (rq_L ln fm tt le li rk we op mk wd wn pc ph pa pe pt se ls mo tp ac sz dw st ty ed fr sp go tk en ch ps pg cf ct la gr cr ne nl oe ol fl tl tn N)) (hj : j < 8) (hk : k < 4) (hkc : k ≤ pc j) (he : e < 65536) (ht : t = 0 ∨ (0 < t ∧ t ≤ 9999 ∧ 1 ≤ t % 100 ∧ t % 100 ≤ t / 100)) (h : wX_phase_85 post (nI j) (nI k) (nI e) (nI t) (nI tn) (rn_A ln) (rn_A fm) (rn_A tt) (rn_A le) (rn_A li) (rn_A rk) (rn_A we) (rn_A op) (rn_A ca) (rn_A mk) (rn_B wd) (rn_B wn) (rn_A pc) (rn_A ph) (rn_A pa) (rn_A pe) (rn_A pt) (rn_A tp) (rn_A ac) (rn_A sz) (rn_A dw) (rn_A st) (rn_A ty) (rn_A ed) (rn_B ps) (rn_A fr) (rn_A sp) (rn_A go) (rn_A nz) (rn_B pg) (rn_B cf) (rn_B ct) (rn_A tk) (rn_A en) (rn_B ch) (rn_A nw) (rn_A tl)) : wpX_phase post (nI tn, rn_A ln, rn_A fm, rn_A tt, rn_A le, rn_A li, rn_A rk, rn_A we, rn_A op, rn_A ca, rn_A mk, rn_B wd, rn_B wn, rn_A pc, rn_A ph, rn_A pa, rn_A pe, rn_A pt, rn_A tp, rn_A ac, rn_A sz, rn_A dw, rn_A st, rn_A ty, rn_A ed, rn_B ps, rn_A fr, rn_A sp, rn_A go, rn_A nz, rn_B pg, rn_B cf, rn_B ct, rn_A tk, rn_A en, rn_B ch, rn_A nw, rn_A tl) (nI j) (nI k) (nI e) (nI t) := by
  have P := (I.2.2.1 j hj).1
  refine br_f (nI_pos (by omega)) (br_f (nI_ge (b := 8) hj (by decide)) (br_f (nI_pos (by omega)) (br_f (nI_ge (b := 4) hk (by decide)) ⟨pk_in j 8 hj, pk_le k (pc j) (fun _ => br_f (nI_pos (by omega)) (br_t (nI_le (b := 65535) (by omega) (by decide)) ?_)) (fun z => by omega) rfl (rn_rA (by omega))⟩)))
  rcases ht with z | ⟨z1, z2, z3, z4⟩
  · subst z; exact br_t rfl h
  · obtain ⟨b1, b2⟩ := rn_100 (t := t) (by omega)
    rw [b1, b2]
    exact br_f (nI_ne0 z1 (by omega)) (br_f (nI_pos (by omega)) (br_f (nI_nlt (a := 9999) z2 (by decide)) ⟨by decide, br_f (nI_nlt (b := 1) z3 (by omega)) ⟨by decide, by decide, br_t (nI_le z4 (by omega)) h⟩⟩))
theorem ry_phA (post : Int32 → SY → Prop) {j k e t : Nat} (I : (rq_L ln fm tt le li rk we op mk wd wn pc ph pa pe pt se ls mo tp ac sz dw st ty ed fr sp go tk en ch ps pg cf ct la gr cr ne nl oe ol fl tl tn N)) (hj : j < 8) (hk : k < 4) (hkc : k ≤ pc j) (he : e < 65536) (ht : t = 0 ∨ (0 < t ∧ t ≤ 9999 ∧ 1 ≤ t % 100 ∧ t % 100 ≤ t / 100)) (h : wY_phase_87 post (nI j) (nI k) (nI e) (nI t) (nI (t % 100)) (nI (t / 100)) (nI kn) (nI tn) th (rn_T ln) (rn_A op) (rn_A fm) (rn_A tt) (rn_A le) (rn_A ln) (rn_A li) (rn_A rk) (rn_A we) (rn_A ca) (rn_A mk) (rn_A fa) (rn_A tp) (rn_A ac) (rn_A sz) (rn_A dw) (rn_A st) (rn_A ty) (rn_A ed) (rn_A la) (rn_A fr) (rn_A sp) (rn_A go) (rn_A nz) (rn_A tk) (rn_C ch) (rn_A en) (rn_A nw) (rn_A gr) (rn_A cr) (rn_A ne) (rn_A nl) (rn_A oe) (rn_A ol) (rn_A fl) (rn_A pc) (rn_A ph) (rn_A pa) (rn_A se) (rn_A ls) (rn_A mo) (rn_A tl) gp fs) : wpY_phase post (nI kn, nI tn, th, rn_T ln, rn_A op, rn_A fm, rn_A tt, rn_A le, rn_A ln, rn_A li, rn_A rk, rn_A we, rn_A ca, rn_A mk, rn_A fa, rn_A tp, rn_A ac, rn_A sz, rn_A dw, rn_A st, rn_A ty, rn_A ed, rn_A la, rn_A fr, rn_A sp, rn_A go, rn_A nz, rn_A tk, rn_C ch, rn_A en, rn_A nw, rn_A gr, rn_A cr, rn_A ne, rn_A nl, rn_A oe, rn_A ol, rn_A fl, rn_A pc, rn_A ph, rn_A pa, rn_A se, rn_A ls, rn_A mo, rn_A tl, gp, fs) (nI j) (nI k) (nI e) (nI t) := by
  have P := (I.2.2.1 j hj).1
  have t1 : t ≤ 9999 := by omega
  obtain ⟨b1, b2⟩ := rn_100 (t := t) (by omega)
  unfold wpY_phase
  refine ry_in _ _ _ _ (rb_b (fun w => absurd ⟨nI_pos (by omega), nI_nlt (a := 7) (b := j) (by omega) (by decide)⟩ w) (fun _ => ry_in _ _ _ _ (rb_b (fun w => absurd ⟨nI_pos (by omega), nI_nlt (a := 3) (b := k) (by omega) (by decide)⟩ w) (fun _ => ⟨pk_in j 8 hj, pk_lt (pc j) k (fun z => by omega) (fun _ => ?_) (rn_rA (by omega))⟩))))
  refine ry_in _ _ _ _ (rb_b (fun w => absurd ⟨nI_pos (by omega), nI_nlt (a := 65535) (b := e) (by omega) (by decide)⟩ w) (fun _ => ⟨by decide, nm_r b1 ⟨by decide, nm_r b2 ?_⟩⟩))
  rcases ht with z | ⟨z1, z2, z3, z4⟩
  · subst z; exact br_t rfl h
  · exact br_f (nI_ne0 z1 (by omega)) (ry_in _ _ _ _ (rb_b (fun w => absurd ⟨nI_pos (by omega), nI_nlt (a := 9999) z2 (by decide)⟩ w) (fun _ => br_f (nI_nlt (b := 1) z3 (by omega)) (br_t (nI_le z4 (by omega)) h))))
theorem rx_151 (post : Int32 → SX → Prop) {j : Nat} (hj : j < 8) (h : post 1 (nI tn, rn_A ln, rn_A fm, rn_A tt, rn_A le, rn_A li, rn_A rk, rn_A we, rn_A op, rn_A ca, rn_A mk, rn_B wd, rn_B wn, rn_A pc, rn_A (ru_p ph j 0), rn_A (ru_p pa j 0), rn_A pe, rn_A pt, rn_A tp, rn_A ac, rn_A sz, rn_A dw, rn_A st, rn_A ty, rn_A ed, rn_B ps, rn_A fr, rn_A sp, rn_A go, rn_A nz, rn_B pg, rn_B cf, rn_B ct, rn_A tk, rn_A en, rn_B ch, rn_A nw, rn_A tl)) : wX_phase_151 post (nI j) (nI tn) (rn_A ln) (rn_A fm) (rn_A tt) (rn_A le) (rn_A li) (rn_A rk) (rn_A we) (rn_A op) (rn_A ca) (rn_A mk) (rn_B wd) (rn_B wn) (rn_A pc) (rn_A ph) (rn_A pa) (rn_A pe) (rn_A pt) (rn_A tp) (rn_A ac) (rn_A sz) (rn_A dw) (rn_A st) (rn_A ty) (rn_A ed) (rn_B ps) (rn_A fr) (rn_A sp) (rn_A go) (rn_A nz) (rn_B pg) (rn_B cf) (rn_B ct) (rn_A tk) (rn_A en) (rn_B ch) (rn_A nw) (rn_A tl) :=
  ⟨pk_in j 8 hj, nm_r (rn_uA (x := 0) (by omega)) ⟨pk_in j 8 hj, nm_r (rn_uA (x := 0) (by omega)) h⟩⟩
theorem ry_157 (post : Int32 → SY → Prop) {j : Nat} (hj : j < 8) (h : post 1 (nI kn, nI tn, th, rn_T ln, rn_A op, rn_A fm, rn_A tt, rn_A le, rn_A ln, rn_A li, rn_A rk, rn_A we, rn_A ca, rn_A mk, rn_A fa, rn_A tp, rn_A ac, rn_A sz, rn_A dw, rn_A st, rn_A ty, rn_A ed, rn_A la, rn_A fr, rn_A sp, rn_A go, rn_A nz, rn_A tk, rn_C ch, rn_A en, rn_A nw, rn_A gr, rn_A cr, rn_A ne, rn_A nl, rn_A oe, rn_A ol, rn_A fl, rn_A pc, rn_A (ru_p ph j 0), rn_A (ru_p pa j 0), rn_A se, rn_A ls, rn_A mo, rn_A tl, gp, fs)) : wY_phase_157 post (nI j) (nI kn) (nI tn) th (rn_T ln) (rn_A op) (rn_A fm) (rn_A tt) (rn_A le) (rn_A ln) (rn_A li) (rn_A rk) (rn_A we) (rn_A ca) (rn_A mk) (rn_A fa) (rn_A tp) (rn_A ac) (rn_A sz) (rn_A dw) (rn_A st) (rn_A ty) (rn_A ed) (rn_A la) (rn_A fr) (rn_A sp) (rn_A go) (rn_A nz) (rn_A tk) (rn_C ch) (rn_A en) (rn_A nw) (rn_A gr) (rn_A cr) (rn_A ne) (rn_A nl) (rn_A oe) (rn_A ol) (rn_A fl) (rn_A pc) (rn_A ph) (rn_A pa) (rn_A se) (rn_A ls) (rn_A mo) (rn_A tl) gp fs :=
  ⟨pk_in j 8 hj, nm_r (rn_uA (x := 0) (by omega)) ⟨pk_in j 8 hj, nm_r (rn_uA (x := 0) (by omega)) h⟩⟩
end
theorem i_vc_phase {k : Nat} {u : SX} {v : SY} (I : i_Rel k u v) (hk : k + 5 ≤ 2560) (v1 : Int32) (v2 : Int32) (v3 : Int32) (v4 : Int32) : wpX_phase (fun r u' => wpY_phase (fun r' v' => r' = r ∧ i_Rel (k + 5) u' v') v v1 v2 v3 v4) u v1 v2 v3 v4 := by
  obtain ⟨ln, fm, tt, le, li, rk, we, op, ca, mk, wd, wn, fa, pc, ph, pa, pe, pt, se, ls, mo, tp, ac, sz, dw, st, ty, ed, fr, sp, go, nz, tk, en, ch, nw, ps, pg, cf, ct, la, gr, cr, ne, nl, oe, ol, fl, tl, tn, kn, N, th, gp, fs, rfl, rfl, I, hW, hN, hT⟩ := I
  rcases Classical.em (ra_ph pc v1 v2 v3 v4) with ⟨j, m, e, t, rfl, hj, rfl, hm, hmc, rfl, he, rfl, ht⟩ | hn
  · have P := (I.1.2.2.1 j hj).1
    have ij : vp_in (nI j) 8 := pk_in j 8 hj
    have ix : (4 : Int32) * nI j + nI m = nI (4 * j + m) := by rw [show (4 : Int32) * nI j = nI (4 * j) from pk_mul 4 _, nI_add]
    have is : vp_in (nI (4 * j + m)) 32 := vp_in_nI (by omega) (by omega)
    have pr : rn_A pc (nI j).toNatClampNeg = nI (pc j) := rn_rA (by omega)
    refine rx_phA _ I.1 hj hm hmc he ht ?_
    unfold wX_phase_85
    rw [ix, pr]
    rcases Nat.eq_zero_or_pos t with z | z
    · subst z
      refine br_t rfl ⟨ij, nm_r (rn_uA (by omega)) (rx_151 _ hj (ry_phA _ I.1 hj hm hmc he ht ?_))⟩
      unfold wY_phase_87
      rw [ix, pr]
      refine ⟨is, nm_r (rn_uA (by omega)) ⟨is, nm_r (rn_uA (x := 0) (by omega)) ⟨is, nm_r (rn_uA (x := 0) (by omega)) (br_t rfl ⟨ij, nm_r (rn_uA (by omega)) (ry_157 _ hj ⟨rfl, ?_⟩)⟩)⟩⟩⟩
      exact rl_rel ⟨⟨I.1.1, I.1.2.1, rl_phZ I.1.2.2.1 hj hm hmc, I.1.2.2.2⟩, I.2⟩ hW (by omega) (by omega)
    · refine br_f (nI_ne0 z (by omega)) ⟨is, nm_r (rn_uA (by omega)) ⟨is, nm_r (rn_uA (by omega)) ⟨ij, ?_⟩⟩⟩
      have fin : ∀ n, n ≤ 4 → (n = m ∨ (m < n ∧ (n = m + 1 ∨ n = pc j))) → i_Rel (k + 5) (nI tn, rn_A ln, rn_A fm, rn_A tt, rn_A le, rn_A li, rn_A rk, rn_A we, rn_A op, rn_A ca, rn_A mk, rn_B wd, rn_B wn, rn_A (ru_p pc j n), rn_A (ru_p ph j 0), rn_A (ru_p pa j 0), rn_A (ru_p pe (4 * j + m) e), rn_A (ru_p pt (4 * j + m) t), rn_A tp, rn_A ac, rn_A sz, rn_A dw, rn_A st, rn_A ty, rn_A ed, rn_B ps, rn_A fr, rn_A sp, rn_A go, rn_A nz, rn_B pg, rn_B cf, rn_B ct, rn_A tk, rn_A en, rn_B ch, rn_A nw, rn_A tl) (nI kn, nI tn, th, rn_T ln, rn_A op, rn_A fm, rn_A tt, rn_A le, rn_A ln, rn_A li, rn_A rk, rn_A we, rn_A ca, rn_A mk, rn_A fa, rn_A tp, rn_A ac, rn_A sz, rn_A dw, rn_A st, rn_A ty, rn_A ed, rn_A la, rn_A fr, rn_A sp, rn_A go, rn_A nz, rn_A tk, rn_C ch, rn_A en, rn_A nw, rn_A gr, rn_A cr, rn_A ne, rn_A nl, rn_A oe, rn_A ol, rn_A fl, rn_A (ru_p pc j n), rn_A (ru_p ph j 0), rn_A (ru_p pa j 0), rn_A (ru_p se (4 * j + m) e), rn_A (ru_p ls (4 * j + m) (t % 100)), rn_A (ru_p mo (4 * j + m) (t / 100)), rn_A tl, gp, fs) := fun n h1 h2 => rl_rel ⟨⟨I.1.1, I.1.2.1, rl_phP I.1.2.2.1 hj hm hmc he (by omega) h1 h2, I.1.2.2.2⟩, I.2⟩ hW (by omega) (by omega)
      refine pk_eq m (pc j) (fun q => ⟨ij, nm_r (e' := rn_A (ru_p pc j (m + 1))) (by rw [nI_1]; exact rn_uA (by omega)) (rx_151 _ hj (ry_phA _ I.1 hj hm hmc he ht ?_))⟩) (fun q => ⟨ij, ij, nm_r (e' := rn_A (ru_p pc j (pc j))) (rn_uA (by omega)) (rx_151 _ hj (ry_phA _ I.1 hj hm hmc he ht ?_))⟩)
      · unfold wY_phase_87
        rw [ix, pr]
        refine ⟨is, nm_r (rn_uA (by omega)) ⟨is, nm_r (rn_uA (by omega)) ⟨is, nm_r (rn_uA (by omega)) (br_f (nI_ne0 z (by omega)) ⟨ij, br_t (by rw [q]) ⟨ij, ij, nm_r (e' := rn_A (ru_p pc j (m + 1))) (by rw [nI_1, q]; exact rn_uA (by omega)) (ry_157 _ hj ⟨rfl, fin _ (by omega) (by omega)⟩)⟩⟩)⟩⟩⟩
      · unfold wY_phase_87
        rw [ix, pr]
        have f2 := fin (pc j) P (by omega)
        rw [ru_id] at f2 ⊢
        refine ⟨is, nm_r (rn_uA (by omega)) ⟨is, nm_r (rn_uA (by omega)) ⟨is, nm_r (rn_uA (by omega)) (br_f (nI_ne0 z (by omega)) ⟨ij, br_f (fun w => q ((nI_eq (by omega) (by omega)).mp w)) (ry_157 _ hj ⟨rfl, f2⟩)⟩)⟩⟩⟩
  · exact rx_phN _ I.1 hn (ry_phN _ I.1 hn ⟨rfl, rl_rel I hW (by omega) (by omega)⟩)
end
section
/-! type, car, aim, remove -/
def ra_ty (st ty : Nat → Nat) (p0 p1 p2 p3 : Int32) : Prop := ∃ t a b s : Nat, p0 = nI t ∧ t < 4 ∧ p1 = nI a ∧ 1 ≤ a ∧ a ≤ 12 ∧ p2 = nI b ∧ 1 ≤ b ∧ b ≤ 3 ∧ p3 = nI s ∧ s < 100 ∧ 3 ≤ s % 10 ∧ s % 10 ≤ 8 ∧ ¬ ∃ c, c < 32 ∧ st c ≠ 0 ∧ ty c = t
theorem rn_10 {t : Nat} (h : t < 65536) : nI t - nI t / 10 * 10 = nI (t % 10) ∧ nI t / 10 = nI (t / 10) := ⟨pk_rem (d := 10) (by omega) (by omega) (by omega), pk_div (d := 10) (by omega) (by omega) (by omega)⟩
section
variable {ln fm tt le li rk we op ca mk wd wn fa pc ph pa pe pt se ls mo tp ac sz dw st ty ed fr sp go nz tk en ch nw ps pg cf ct la gr cr ne nl oe ol fl tl : Nat → Nat} {tn kn N : Nat} {th : Int32} {gp fs : Nat → Int32}
theorem rx_tyN (post : Int32 → SX → Prop) {p0 p1 p2 p3 : Int32} (I : (rq_L ln fm tt le li rk we op mk wd wn pc ph pa pe pt se ls mo tp ac sz dw st ty ed fr sp go tk en ch ps pg cf ct la gr cr ne nl oe ol fl tl tn N)) (hn : ¬ ra_ty st ty p0 p1 p2 p3) (h : post 0 (nI tn, rn_A ln, rn_A fm, rn_A tt, rn_A le, rn_A li, rn_A rk, rn_A we, rn_A op, rn_A ca, rn_A mk, rn_B wd, rn_B wn, rn_A pc, rn_A ph, rn_A pa, rn_A pe, rn_A pt, rn_A tp, rn_A ac, rn_A sz, rn_A dw, rn_A st, rn_A ty, rn_A ed, rn_B ps, rn_A fr, rn_A sp, rn_A go, rn_A nz, rn_B pg, rn_B cf, rn_B ct, rn_A tk, rn_A en, rn_B ch, rn_A nw, rn_A tl)) : wpX_type post (nI tn, rn_A ln, rn_A fm, rn_A tt, rn_A le, rn_A li, rn_A rk, rn_A we, rn_A op, rn_A ca, rn_A mk, rn_B wd, rn_B wn, rn_A pc, rn_A ph, rn_A pa, rn_A pe, rn_A pt, rn_A tp, rn_A ac, rn_A sz, rn_A dw, rn_A st, rn_A ty, rn_A ed, rn_B ps, rn_A fr, rn_A sp, rn_A go, rn_A nz, rn_B pg, rn_B cf, rn_B ct, rn_A tk, rn_A en, rn_B ch, rn_A nw, rn_A tl) p0 p1 p2 p3 := by
  refine br_c (fun _ => h) (fun k0 => br_c (fun _ => h) (fun k1 => br_c (fun _ => h) (fun k2 => br_c (fun _ => h) (fun k3 => br_c (fun _ => h) (fun k4 => br_c (fun k5 => ⟨by decide, fun x5 e5 => ?_⟩) (fun _ => h))))))
  refine br_c (fun _ => h) (fun k6 => br_c (fun _ => h) (fun k7 => br_c (fun _ => h) (fun k8 => br_c (fun _ => h) (fun k9 => ?_))))
  obtain ⟨t, ht, rfl⟩ := rn_16 (M := 4) (by omega) k0 k1
  obtain ⟨a, rfl, a1, a2⟩ := rn_rg (a := 1) (b := 12) (by omega) (by omega) k2 k3
  obtain ⟨b, rfl, b1, b2⟩ := rn_rg (a := 1) (b := 3) (by omega) (by omega) k4 (Int32.not_lt.mpr k5)
  obtain ⟨s, hs, rfl⟩ := rn_16 (M := 100) (by omega) k6 k7
  rw [e5, (rn_10 (t := s) (by omega)).1] at k8 k9
  have k8' := rn_nl (a := s % 10) (b := 3) (by omega) (by omega) k8
  have k9' := rn_nl (a := 8) (b := s % 10) (by omega) (by omega) k9
  exact rx_use _ rfl ht (rI_st I) (fun c => (rI_c I c).2.1) (rb_b (fun k => absurd ⟨t, a, b, s, rfl, ht, rfl, a1, a2, rfl, b1, b2, rfl, hs, k8', k9', k⟩ hn) (fun _ => h))
theorem ry_t58 (post : Int32 → SY → Prop) {t : Nat} {p1 p2 p3 : Int32} (I : (rq_L ln fm tt le li rk we op mk wd wn pc ph pa pe pt se ls mo tp ac sz dw st ty ed fr sp go tk en ch ps pg cf ct la gr cr ne nl oe ol fl tl tn N)) (ht : t < 4) (P : Prop) (hP : P ↔ ∃ c, c < 32 ∧ st c ≠ 0 ∧ ty c = t) (h0 : P → post 0 (nI kn, nI tn, th, rn_T ln, rn_A op, rn_A fm, rn_A tt, rn_A le, rn_A ln, rn_A li, rn_A rk, rn_A we, rn_A ca, rn_A mk, rn_A fa, rn_A tp, rn_A ac, rn_A sz, rn_A dw, rn_A st, rn_A ty, rn_A ed, rn_A la, rn_A fr, rn_A sp, rn_A go, rn_A nz, rn_A tk, rn_C ch, rn_A en, rn_A nw, rn_A gr, rn_A cr, rn_A ne, rn_A nl, rn_A oe, rn_A ol, rn_A fl, rn_A pc, rn_A ph, rn_A pa, rn_A se, rn_A ls, rn_A mo, rn_A tl, gp, fs)) (h1 : ¬ P → ∀ n, wY_type_58 post (nI t) p1 p2 p3 (nI kn) (nI tn) th (rn_T ln) (rn_A op) (rn_A fm) (rn_A tt) (rn_A le) (rn_A ln) (rn_A li) (rn_A rk) (rn_A we) (rn_A ca) (rn_A mk) (rn_A fa) (rn_A tp) (rn_A ac) (rn_A sz) (rn_A dw) (rn_A st) (rn_A ty) (rn_A ed) (rn_A la) (rn_A fr) (rn_A sp) (rn_A go) (rn_A nz) (rn_A tk) (rn_C ch) (rn_A en) (rn_A nw) (rn_A gr) (rn_A cr) (rn_A ne) (rn_A nl) (rn_A oe) (rn_A ol) (rn_A fl) (rn_A pc) (rn_A ph) (rn_A pa) (rn_A se) (rn_A ls) (rn_A mo) (rn_A tl) gp fs (n + 1) (nI 32)) : ∃ n, wY_type_58 post (nI t) p1 p2 p3 (nI kn) (nI tn) th (rn_T ln) (rn_A op) (rn_A fm) (rn_A tt) (rn_A le) (rn_A ln) (rn_A li) (rn_A rk) (rn_A we) (rn_A ca) (rn_A mk) (rn_A fa) (rn_A tp) (rn_A ac) (rn_A sz) (rn_A dw) (rn_A st) (rn_A ty) (rn_A ed) (rn_A la) (rn_A fr) (rn_A sp) (rn_A go) (rn_A nz) (rn_A tk) (rn_C ch) (rn_A en) (rn_A nw) (rn_A gr) (rn_A cr) (rn_A ne) (rn_A nl) (rn_A oe) (rn_A ol) (rn_A fl) (rn_A pc) (rn_A ph) (rn_A pa) (rn_A se) (rn_A ls) (rn_A mo) (rn_A tl) gp fs n 0 := by
  refine loop_0 (fun n i (_ : Unit) => wY_type_58 post (nI t) p1 p2 p3 (nI kn) (nI tn) th (rn_T ln) (rn_A op) (rn_A fm) (rn_A tt) (rn_A le) (rn_A ln) (rn_A li) (rn_A rk) (rn_A we) (rn_A ca) (rn_A mk) (rn_A fa) (rn_A tp) (rn_A ac) (rn_A sz) (rn_A dw) (rn_A st) (rn_A ty) (rn_A ed) (rn_A la) (rn_A fr) (rn_A sp) (rn_A go) (rn_A nz) (rn_A tk) (rn_C ch) (rn_A en) (rn_A nw) (rn_A gr) (rn_A cr) (rn_A ne) (rn_A nl) (rn_A oe) (rn_A ol) (rn_A fl) (rn_A pc) (rn_A ph) (rn_A pa) (rn_A se) (rn_A ls) (rn_A mo) (rn_A tl) gp fs n (nI i)) (fun i _ => ∀ c, c < i → ¬ (st c ≠ 0 ∧ ty c = t)) 32 () (fun c hc => absurd hc (Nat.not_lt_zero c)) ?_ ?_
  · intro n _ e
    exact h1 (fun w => by obtain ⟨c, c1, c2⟩ := hP.mp w; exact e c c1 c2) n
  · intro n i _ hi e ih
    have A := rI_c I i
    refine pk_le 32 i (fun z => by omega) (fun _ => ⟨pk_in i 32 hi, ?_⟩)
    refine ek_f (rn_e (rn_rA (by omega)) (b := 0) rfl (by omega) (by omega)) (fun e1 => nm_r (nI_1 i) (ih () (lt_s e (fun k => k.1 e1)))) (fun e1 => ⟨pk_in i 32 hi, ?_⟩)
    exact ek_f (rn_e (rn_rA (by omega)) (b := t) rfl (by omega) (by omega)) (fun e2 => h0 (hP.mpr ⟨i, hi, e1, e2⟩)) (fun e2 => nm_r (nI_1 i) (ih () (lt_s e (fun k => e2 k.2))))
theorem ry_tyN (post : Int32 → SY → Prop) {p0 p1 p2 p3 : Int32} (I : (rq_L ln fm tt le li rk we op mk wd wn pc ph pa pe pt se ls mo tp ac sz dw st ty ed fr sp go tk en ch ps pg cf ct la gr cr ne nl oe ol fl tl tn N)) (hn : ¬ ra_ty st ty p0 p1 p2 p3) (h : post 0 (nI kn, nI tn, th, rn_T ln, rn_A op, rn_A fm, rn_A tt, rn_A le, rn_A ln, rn_A li, rn_A rk, rn_A we, rn_A ca, rn_A mk, rn_A fa, rn_A tp, rn_A ac, rn_A sz, rn_A dw, rn_A st, rn_A ty, rn_A ed, rn_A la, rn_A fr, rn_A sp, rn_A go, rn_A nz, rn_A tk, rn_C ch, rn_A en, rn_A nw, rn_A gr, rn_A cr, rn_A ne, rn_A nl, rn_A oe, rn_A ol, rn_A fl, rn_A pc, rn_A ph, rn_A pa, rn_A se, rn_A ls, rn_A mo, rn_A tl, gp, fs)) : wpY_type post (nI kn, nI tn, th, rn_T ln, rn_A op, rn_A fm, rn_A tt, rn_A le, rn_A ln, rn_A li, rn_A rk, rn_A we, rn_A ca, rn_A mk, rn_A fa, rn_A tp, rn_A ac, rn_A sz, rn_A dw, rn_A st, rn_A ty, rn_A ed, rn_A la, rn_A fr, rn_A sp, rn_A go, rn_A nz, rn_A tk, rn_C ch, rn_A en, rn_A nw, rn_A gr, rn_A cr, rn_A ne, rn_A nl, rn_A oe, rn_A ol, rn_A fl, rn_A pc, rn_A ph, rn_A pa, rn_A se, rn_A ls, rn_A mo, rn_A tl, gp, fs) p0 p1 p2 p3 := by
  unfold wpY_type
  refine ry_in _ _ _ _ (rb_b (fun _ => h) (fun k0 => ry_in _ _ _ _ (rb_b (fun _ => h) (fun k1 => ry_in _ _ _ _ (rb_b (fun _ => h) (fun k2 => ry_in _ _ _ _ (rb_b (fun _ => h) (fun k3 => ⟨by decide, ?_⟩))))))))
  obtain ⟨t, rfl, _, ht⟩ := rn_rg (a := 0) (b := 3) (by omega) (by omega) k0.1 k0.2
  obtain ⟨a, rfl, a1, a2⟩ := rn_rg (a := 1) (b := 12) (by omega) (by omega) k1.1 k1.2
  obtain ⟨b, rfl, b1, b2⟩ := rn_rg (a := 1) (b := 3) (by omega) (by omega) k2.1 k2.2
  obtain ⟨s, rfl, _, hs⟩ := rn_rg (a := 0) (b := 99) (by omega) (by omega) k3.1 k3.2
  rw [(rn_10 (t := s) (by omega)).1]
  refine ry_in _ _ _ _ (rb_b (fun _ => h) (fun k4 => ry_t58 post I (by omega) _ Iff.rfl (fun _ => h) (fun w => ?_)))
  have k8' := rn_nl (a := s % 10) (b := 3) (by omega) (by omega) k4.1
  have k9' := rn_nl (a := 8) (b := s % 10) (by omega) (by omega) k4.2
  exact absurd ⟨t, a, b, s, rfl, by omega, rfl, a1, a2, rfl, b1, b2, rfl, by omega, k8', k9', w⟩ hn
end
theorem i_vc_type {k : Nat} {u : SX} {v : SY} (I : i_Rel k u v) (hk : k + 5 ≤ 2560) (v1 : Int32) (v2 : Int32) (v3 : Int32) (v4 : Int32) : wpX_type (fun r u' => wpY_type (fun r' v' => r' = r ∧ i_Rel (k + 5) u' v') v v1 v2 v3 v4) u v1 v2 v3 v4 := by
  obtain ⟨ln, fm, tt, le, li, rk, we, op, ca, mk, wd, wn, fa, pc, ph, pa, pe, pt, se, ls, mo, tp, ac, sz, dw, st, ty, ed, fr, sp, go, nz, tk, en, ch, nw, ps, pg, cf, ct, la, gr, cr, ne, nl, oe, ol, fl, tl, tn, kn, N, th, gp, fs, rfl, rfl, I, hW, hN, hT⟩ := I
  rcases Classical.em (ra_ty st ty v1 v2 v3 v4) with ⟨t, a, b, s, rfl, ht, rfl, a1, a2, rfl, b1, b2, rfl, hs, s1, s2, nu⟩ | hn
  · have it : vp_in (nI t) 4 := pk_in t 4 ht
    obtain ⟨q1, q2⟩ := rn_10 (t := s) (by omega)
    have T1 : (rq_Ty (ru_p tp t a) (ru_p ac t b) (ru_p sz t (s % 10)) (ru_p dw t (s / 10))) := by
      intro i hi
      rcases Nat.decEq i t with z | z
      · rw [ru_n z, ru_n z, ru_n z, ru_n z]; exact I.1.2.2.2.1 i hi
      · subst z; rw [ru_s, ru_s, ru_s, ru_s]; omega
    have S1 : (rd_Safe le fm tt ps pg fr sp go (fun x => (ru_p sz t (s % 10)) (ty x))) := by
      refine rd_same I.2 (fun c hc hp => ⟨rfl, rfl, rfl, ?_⟩)
      have : ty c ≠ t := by
        intro w
        refine nu ⟨c, hc, ?_, w⟩
        intro z
        have := ((rI_p I.1 hc).2.2.2.2.1 (by omega)).1
        omega
      exact ru_n this
    refine br_f (nI_pos (by omega)) (br_f (nI_ge (b := 4) ht (by decide)) (br_f (nI_nlt (b := 1) a1 (by omega)) (br_f (nI_nlt (a := 12) a2 (by decide)) (br_f (nI_nlt (b := 1) b1 (by omega)) (br_t (nI_le (b := 3) b2 (by decide)) ⟨by decide, nm_r q1 ?_⟩)))))
    refine br_f (nI_pos (by omega)) (br_f (nI_ge (b := 100) hs (by decide)) (br_f (nI_nlt (b := 3) s1 (by omega)) (br_f (nI_nlt (a := 8) s2 (by decide)) (rx_use _ rfl ht (rI_st I.1) (fun c => (rI_c I.1 c).2.1) (rb_b (fun _ => ?_) (fun w => absurd w nu))))))
    rw [q2]
    refine ⟨it, nm_r (rn_uA (by omega)) ⟨it, nm_r (rn_uA (by omega)) ⟨it, nm_r (rn_uA (by omega)) ⟨by decide, it, nm_r (rn_uA (by omega)) ?_⟩⟩⟩⟩
    unfold wpY_type
    refine ry_in _ _ _ _ (rb_b (fun w => absurd ⟨nI_pos (by omega), nI_nlt (a := 3) (b := t) (by omega) (by decide)⟩ w) (fun _ => ry_in _ _ _ _ (rb_b (fun w => absurd ⟨nI_nlt (b := 1) a1 (by omega), nI_nlt (a := 12) a2 (by decide)⟩ w) (fun _ => ry_in _ _ _ _ (rb_b (fun w => absurd ⟨nI_nlt (b := 1) b1 (by omega), nI_nlt (a := 3) b2 (by decide)⟩ w) (fun _ => ry_in _ _ _ _ (rb_b (fun w => absurd ⟨nI_pos (by omega), nI_nlt (a := 99) (b := s) (by omega) (by decide)⟩ w) (fun _ => ⟨by decide, ?_⟩))))))))
    rw [q1]
    refine ry_in _ _ _ _ (rb_b (fun w => absurd ⟨nI_nlt (b := 3) s1 (by omega), nI_nlt (a := 8) s2 (by decide)⟩ w) (fun _ => ry_t58 _ I.1 ht _ Iff.rfl (fun w => absurd w nu) (fun _ n => br_t (by decide) ?_)))
    rw [q1, q2]
    exact ⟨it, nm_r (rn_uA (by omega)) ⟨it, nm_r (rn_uA (by omega)) ⟨by decide, it, nm_r (rn_uA (by omega)) ⟨by decide, it, nm_r (rn_uA (by omega)) ⟨rfl, rl_rel ⟨⟨I.1.1, I.1.2.1, I.1.2.2.1, T1, I.1.2.2.2.2⟩, S1⟩ hW (by omega) (by omega)⟩⟩⟩⟩⟩
  · exact rx_tyN _ I.1 hn (ry_tyN _ I.1 hn ⟨rfl, rl_rel I hW (by omega) (by omega)⟩)
/-! car -/
def ra_car (ln st : Nat → Nat) (p0 p1 p2 p3 : Int32) : Prop := ∃ c t e g : Nat, p0 = nI c ∧ c < 32 ∧ p1 = nI t ∧ t < 4 ∧ p2 = nI e ∧ e < 16 ∧ 0 < ln e ∧ p3 = nI g ∧ g < 16 ∧ 0 < ln g ∧ st c = 0
section
variable {ln fm tt le li rk we op ca mk wd wn fa pc ph pa pe pt se ls mo tp ac sz dw st ty ed fr sp go nz tk en ch nw ps pg cf ct la gr cr ne nl oe ol fl tl : Nat → Nat} {tn kn N : Nat} {th : Int32} {gp fs : Nat → Int32}
theorem rx_carN (post : Int32 → SX → Prop) {p0 p1 p2 p3 : Int32} (I : (rq_L ln fm tt le li rk we op mk wd wn pc ph pa pe pt se ls mo tp ac sz dw st ty ed fr sp go tk en ch ps pg cf ct la gr cr ne nl oe ol fl tl tn N)) (hn : ¬ ra_car ln st p0 p1 p2 p3) (h : post 0 (nI tn, rn_A ln, rn_A fm, rn_A tt, rn_A le, rn_A li, rn_A rk, rn_A we, rn_A op, rn_A ca, rn_A mk, rn_B wd, rn_B wn, rn_A pc, rn_A ph, rn_A pa, rn_A pe, rn_A pt, rn_A tp, rn_A ac, rn_A sz, rn_A dw, rn_A st, rn_A ty, rn_A ed, rn_B ps, rn_A fr, rn_A sp, rn_A go, rn_A nz, rn_B pg, rn_B cf, rn_B ct, rn_A tk, rn_A en, rn_B ch, rn_A nw, rn_A tl)) : wpX_car post (nI tn, rn_A ln, rn_A fm, rn_A tt, rn_A le, rn_A li, rn_A rk, rn_A we, rn_A op, rn_A ca, rn_A mk, rn_B wd, rn_B wn, rn_A pc, rn_A ph, rn_A pa, rn_A pe, rn_A pt, rn_A tp, rn_A ac, rn_A sz, rn_A dw, rn_A st, rn_A ty, rn_A ed, rn_B ps, rn_A fr, rn_A sp, rn_A go, rn_A nz, rn_B pg, rn_B cf, rn_B ct, rn_A tk, rn_A en, rn_B ch, rn_A nw, rn_A tl) p0 p1 p2 p3 := by
  have hl : ∀ e, ln e ≤ 2 := fun e => (rI_e I e).1
  refine br_c (fun _ => h) (fun k0 => br_c (fun _ => h) (fun k1 => br_c (fun _ => h) (fun k2 => br_c (fun _ => h) (fun k3 => rx_ie _ _ hl (rb_b (fun _ => h) (fun ⟨e, e1, e2, e3⟩ => rx_ie _ _ hl (rb_b (fun _ => h) (fun ⟨g, g1, g2, g3⟩ => ?_))))))))
  obtain ⟨c, hc, rfl⟩ := rn_16 (M := 32) (by omega) k0 k1
  obtain ⟨t, ht, rfl⟩ := rn_16 (M := 4) (by omega) k2 k3
  have A := rI_c I c
  exact ⟨pk_in c 32 hc, ek_f (rn_e (rn_rA (by omega)) (b := 0) rfl (by omega) (by omega)) (fun k => absurd ⟨c, t, e, g, rfl, hc, rfl, ht, e2, e1, e3, g2, g1, g3, k⟩ hn) (fun _ => h)⟩
theorem ry_isc (post : Int32 → Prop) (x : Int32) (h0 : (¬ ∃ c, c < 32 ∧ x = nI c) → post 0) (h1 : ∀ c, c < 32 → x = nI c → post 1) : wpY_isCar post x := by
  unfold wpY_isCar
  refine ry_in _ _ _ _ ⟨rb_n _, ?_⟩
  rcases Classical.em (¬ x < 0 ∧ ¬ 31 < x) with w | w
  · rw [rb_t w]
    obtain ⟨c, q, _, hc⟩ := rn_rg (a := 0) (b := 31) (by omega) (by omega) w.1 w.2
    exact h1 c (by omega) q
  · rw [rb_f w]
    refine h0 (fun ⟨c, hc, q⟩ => w ?_)
    subst q
    exact ⟨nI_pos (by omega), nI_nlt (a := 31) (b := c) (by omega) (by decide)⟩
theorem ry_carN (post : Int32 → SY → Prop) {p0 p1 p2 p3 : Int32} (I : (rq_L ln fm tt le li rk we op mk wd wn pc ph pa pe pt se ls mo tp ac sz dw st ty ed fr sp go tk en ch ps pg cf ct la gr cr ne nl oe ol fl tl tn N)) (hn : ¬ ra_car ln st p0 p1 p2 p3) (h : post 0 (nI kn, nI tn, th, rn_T ln, rn_A op, rn_A fm, rn_A tt, rn_A le, rn_A ln, rn_A li, rn_A rk, rn_A we, rn_A ca, rn_A mk, rn_A fa, rn_A tp, rn_A ac, rn_A sz, rn_A dw, rn_A st, rn_A ty, rn_A ed, rn_A la, rn_A fr, rn_A sp, rn_A go, rn_A nz, rn_A tk, rn_C ch, rn_A en, rn_A nw, rn_A gr, rn_A cr, rn_A ne, rn_A nl, rn_A oe, rn_A ol, rn_A fl, rn_A pc, rn_A ph, rn_A pa, rn_A se, rn_A ls, rn_A mo, rn_A tl, gp, fs)) : wpY_car post (nI kn, nI tn, th, rn_T ln, rn_A op, rn_A fm, rn_A tt, rn_A le, rn_A ln, rn_A li, rn_A rk, rn_A we, rn_A ca, rn_A mk, rn_A fa, rn_A tp, rn_A ac, rn_A sz, rn_A dw, rn_A st, rn_A ty, rn_A ed, rn_A la, rn_A fr, rn_A sp, rn_A go, rn_A nz, rn_A tk, rn_C ch, rn_A en, rn_A nw, rn_A gr, rn_A cr, rn_A ne, rn_A nl, rn_A oe, rn_A ol, rn_A fl, rn_A pc, rn_A ph, rn_A pa, rn_A se, rn_A ls, rn_A mo, rn_A tl, gp, fs) p0 p1 p2 p3 := by
  unfold wpY_car
  refine ry_isc _ _ (fun _ => br_t rfl h) (fun c hc q => br_f (by decide) (ry_in _ _ _ _ (rb_b (fun _ => h) (fun k => ry_ie _ _ (rb_b (fun _ => h) (fun ⟨e, e1, e2, e3⟩ => ry_ie _ _ (rb_b (fun _ => h) (fun ⟨g, g1, g2, g3⟩ => ?_))))))))
  subst q
  obtain ⟨t, rfl, _, ht⟩ := rn_rg (a := 0) (b := 3) (by omega) (by omega) k.1 k.2
  have A := rI_c I c
  exact ⟨pk_in c 32 hc, ek_f (rn_e (rn_rA (by omega)) (b := 0) rfl (by omega) (by omega)) (fun k => absurd ⟨c, t, e, g, rfl, hc, rfl, by omega, e2, e1, e3, g2, g1, g3, k⟩ hn) (fun _ => h)⟩
theorem rl_carC {c t e g : Nat} (h : (rq_C ln st ty ed fr sp go tk en ch ps pg cf ct la gr cr ne nl oe ol fl tn N)) (hc : c < 32) (ht : t < 4) (he : e < 16) (hle : 0 < ln e) (hg : g < 16) (hlg : 0 < ln g) (h0 : st c = 0) : (rq_C ln (ru_p st c 1) (ru_p ty c t) (ru_p ed c e) fr sp (ru_p go c g) (ru_p tk c tn) en (ru_p ch c 0) ps pg cf ct la (ru_p gr c 0) (ru_p cr c 0) ne nl oe ol fl (tn + 1) N) := by
  refine ⟨fun d => ?_, fun d hd => ?_⟩
  · have a := h.1 d
    rcases Nat.decEq d c with z | z
    · rw [ru_n z, ru_n z, ru_n z, ru_n z, ru_n z, ru_n z]; omega
    · subst z
      rw [ru_s, ru_s, ru_s, ru_s, ru_s, ru_s]; omega
  · obtain ⟨b1, b2, b3, b4, b5⟩ := h.2 d hd
    rcases Nat.decEq d c with z | z
    · rw [ru_n z, ru_n z, ru_n z, ru_n z, ru_n z]
      exact ⟨b1, b2, b3, b4, b5⟩
    · subst z
      have p := b3 (by omega)
      rw [ru_s, ru_s, ru_s, ru_s, ru_s]
      exact ⟨fun _ => ⟨hle, hlg⟩, fun w => by omega, fun _ => p, Or.inl ⟨p.2.1, rfl⟩, fun w => by omega⟩
end
theorem i_vc_car {k : Nat} {u : SX} {v : SY} (I : i_Rel k u v) (hk : k + 5 ≤ 2560) (v1 : Int32) (v2 : Int32) (v3 : Int32) (v4 : Int32) : wpX_car (fun r u' => wpY_car (fun r' v' => r' = r ∧ i_Rel (k + 5) u' v') v v1 v2 v3 v4) u v1 v2 v3 v4 := by
  obtain ⟨ln, fm, tt, le, li, rk, we, op, ca, mk, wd, wn, fa, pc, ph, pa, pe, pt, se, ls, mo, tp, ac, sz, dw, st, ty, ed, fr, sp, go, nz, tk, en, ch, nw, ps, pg, cf, ct, la, gr, cr, ne, nl, oe, ol, fl, tl, tn, kn, N, th, gp, fs, rfl, rfl, I, hW, hN, hT⟩ := I
  have hl : ∀ e, ln e ≤ 2 := fun e => (rI_e I.1 e).1
  rcases Classical.em (ra_car ln st v1 v2 v3 v4) with ⟨c, t, e, g, rfl, hc, rfl, ht, rfl, he, hle, rfl, hg, hlg, h0⟩ | hn
  · have ic : vp_in (nI c) 32 := pk_in c 32 hc
    have A := rI_c I.1 c
    have pc0 := ((rI_p I.1 hc).2.2.2.2.1 (by omega)).1
    have nz1 : (12345 : Int32) + nI c = nI (12345 + c) := by rw [show (12345 : Int32) = nI 12345 from rfl, nI_add]
    have C1 := rl_carC I.1.2.1 hc ht he hle hg hlg h0
    have S1 : (rd_Safe le fm tt ps pg fr sp (ru_p go c g) (fun x => sz ((ru_p ty c t) x))) := by
      refine rd_same I.2 (fun d hd hp => ?_)
      have z : d ≠ c := by intro w; subst w; omega
      refine ⟨rfl, rfl, ru_n z, ?_⟩
      show sz (ru_p ty c t d) = sz (ty d)
      rw [ru_n z]
    refine br_f (nI_pos (by omega)) (br_f (nI_ge (b := 32) hc (by decide)) (br_f (nI_pos (by omega)) (br_f (nI_ge (b := 4) ht (by decide)) (rx_ie _ _ hl (rb_b (fun w => absurd ⟨e, he, rfl, hle⟩ w) (fun _ => rx_ie _ _ hl (rb_b (fun w => absurd ⟨g, hg, rfl, hlg⟩ w) (fun _ => ⟨ic, ek_f (rn_e (rn_rA (by omega)) (b := 0) rfl (by omega) (by omega)) (fun _ => ?_) (fun w => absurd h0 w)⟩))))))))
    rw [nz1]
    refine ⟨ic, nm_r (rn_uA (x := 1) (by omega)) ⟨ic, nm_r (rn_uA (by omega)) ⟨ic, nm_r (rn_uA (by omega)) ⟨ic, nm_r (rn_uA (by omega)) ⟨ic, nm_r (rn_uA (by omega)) ⟨ic, nm_r (rn_uB (x := 0) (by omega)) ⟨ic, nm_r (rn_uA (by omega)) (nm_r (nI_1 tn) ?_)⟩⟩⟩⟩⟩⟩⟩
    unfold wpY_car
    refine ry_isc _ _ (fun w => absurd ⟨c, hc, rfl⟩ w) (fun c' hc' q => br_f (by decide) (ry_in _ _ _ _ (rb_b (fun w => absurd ⟨nI_pos (by omega), nI_nlt (a := 3) (b := t) (by omega) (by decide)⟩ w) (fun _ => ry_ie _ _ (rb_b (fun w => absurd ⟨e, he, rfl, hle⟩ w) (fun _ => ry_ie _ _ (rb_b (fun w => absurd ⟨g, hg, rfl, hlg⟩ w) (fun _ => ⟨ic, ek_f (rn_e (rn_rA (by omega)) (b := 0) rfl (by omega) (by omega)) (fun _ => ?_) (fun w => absurd h0 w)⟩))))))))
    rw [nz1, rn_vf]
    exact ⟨ic, nm_r (rn_uA (x := 1) (by omega)) ⟨ic, nm_r (rn_uA (by omega)) ⟨ic, nm_r (rn_uA (by omega)) ⟨ic, nm_r (rn_uA (by omega)) ⟨ic, nm_r (rn_uA (by omega)) (nm_r (nI_1 tn) ⟨ic, nm_r (rn_uA (by omega)) ⟨ic, nm_r (rn_uA (x := 0) (by omega)) ⟨ic, nm_r (rn_uA (x := 0) (by omega)) ⟨ic, nm_r (rn_uC (x := 0) (by omega)) ⟨rfl, rl_rel (tn := tn + 1) ⟨⟨I.1.1, C1, I.1.2.2.1, I.1.2.2.2.1, I.1.2.2.2.2.1, I.1.2.2.2.2.2.1, I.1.2.2.2.2.2.2.1, by omega⟩, S1⟩ hW (by omega) (by omega)⟩⟩⟩⟩⟩)⟩⟩⟩⟩⟩
  · exact rx_carN _ I.1 hn (ry_carN _ I.1 hn ⟨rfl, rl_rel I hW (by omega) (by omega)⟩)
/-! remove -/
theorem i_vc_remove {k : Nat} {u : SX} {v : SY} (I : i_Rel k u v) (hk : k + 5 ≤ 2560) (v1 : Int32) : wpX_remove (fun r u' => wpY_remove (fun r' v' => r' = r ∧ i_Rel (k + 5) u' v') v v1) u v1 := by
  obtain ⟨ln, fm, tt, le, li, rk, we, op, ca, mk, wd, wn, fa, pc, ph, pa, pe, pt, se, ls, mo, tp, ac, sz, dw, st, ty, ed, fr, sp, go, nz, tk, en, ch, nw, ps, pg, cf, ct, la, gr, cr, ne, nl, oe, ol, fl, tl, tn, kn, N, th, gp, fs, rfl, rfl, I, hW, hN, hT⟩ := I
  have R0 : i_Rel (k + 5) (nI tn, rn_A ln, rn_A fm, rn_A tt, rn_A le, rn_A li, rn_A rk, rn_A we, rn_A op, rn_A ca, rn_A mk, rn_B wd, rn_B wn, rn_A pc, rn_A ph, rn_A pa, rn_A pe, rn_A pt, rn_A tp, rn_A ac, rn_A sz, rn_A dw, rn_A st, rn_A ty, rn_A ed, rn_B ps, rn_A fr, rn_A sp, rn_A go, rn_A nz, rn_B pg, rn_B cf, rn_B ct, rn_A tk, rn_A en, rn_B ch, rn_A nw, rn_A tl) (nI kn, nI tn, th, rn_T ln, rn_A op, rn_A fm, rn_A tt, rn_A le, rn_A ln, rn_A li, rn_A rk, rn_A we, rn_A ca, rn_A mk, rn_A fa, rn_A tp, rn_A ac, rn_A sz, rn_A dw, rn_A st, rn_A ty, rn_A ed, rn_A la, rn_A fr, rn_A sp, rn_A go, rn_A nz, rn_A tk, rn_C ch, rn_A en, rn_A nw, rn_A gr, rn_A cr, rn_A ne, rn_A nl, rn_A oe, rn_A ol, rn_A fl, rn_A pc, rn_A ph, rn_A pa, rn_A se, rn_A ls, rn_A mo, rn_A tl, gp, fs) := rl_rel I hW (by omega) (by omega)
  rcases Classical.em (∃ c, c < 32 ∧ v1 = nI c) with ⟨c, hc, rfl⟩ | hn
  · have ic : vp_in (nI c) 32 := pk_in c 32 hc
    have A := rI_c I.1 c
    have one : ∀ c', nI c = nI c' → c' < 32 → c' = c := fun c' h h' => ((nI_eq (by omega) (by omega)).mp h).symm
    refine br_f (nI_pos (by omega)) (br_f (nI_ge (b := 32) hc (by decide)) ⟨ic, ek_f (rn_e (rn_rA (by omega)) (b := 0) rfl (by omega) (by omega)) (fun z => ?_) (fun z => rx_to _ rfl hc ?_)⟩)
    · unfold wpY_remove
      refine ry_isc _ _ (fun w => absurd ⟨c, hc, rfl⟩ w) (fun c' hc' q => br_f (by decide) ⟨ic, ek_f (rn_e (rn_rA (by omega)) (b := 0) rfl (by omega) (by omega)) (fun _ => ⟨rfl, R0⟩) (fun w => absurd z w)⟩)
    · unfold wpY_remove
      refine ry_isc _ _ (fun w => absurd ⟨c, hc, rfl⟩ w) (fun c' hc' q => br_f (by decide) ⟨ic, ek_f (rn_e (rn_rA (by omega)) (b := 0) rfl (by omega) (by omega)) (fun w => absurd w z) (fun _ => ?_)⟩)
      rw [rn_vf]
      exact ⟨ic, nm_r (rn_uA (x := 0) (by omega)) ⟨ic, nm_r (rn_uA (x := 0) (by omega)) ⟨rfl, rl_rel ⟨⟨I.1.1, rq_mvB I.1.2.1, I.1.2.2⟩, rd_remove I.2 c⟩ hW (by omega) (by omega)⟩⟩⟩
  · have y : wpY_remove (fun r' v' => r' = 0 ∧ i_Rel (k + 5) (nI tn, rn_A ln, rn_A fm, rn_A tt, rn_A le, rn_A li, rn_A rk, rn_A we, rn_A op, rn_A ca, rn_A mk, rn_B wd, rn_B wn, rn_A pc, rn_A ph, rn_A pa, rn_A pe, rn_A pt, rn_A tp, rn_A ac, rn_A sz, rn_A dw, rn_A st, rn_A ty, rn_A ed, rn_B ps, rn_A fr, rn_A sp, rn_A go, rn_A nz, rn_B pg, rn_B cf, rn_B ct, rn_A tk, rn_A en, rn_B ch, rn_A nw, rn_A tl) v') (nI kn, nI tn, th, rn_T ln, rn_A op, rn_A fm, rn_A tt, rn_A le, rn_A ln, rn_A li, rn_A rk, rn_A we, rn_A ca, rn_A mk, rn_A fa, rn_A tp, rn_A ac, rn_A sz, rn_A dw, rn_A st, rn_A ty, rn_A ed, rn_A la, rn_A fr, rn_A sp, rn_A go, rn_A nz, rn_A tk, rn_C ch, rn_A en, rn_A nw, rn_A gr, rn_A cr, rn_A ne, rn_A nl, rn_A oe, rn_A ol, rn_A fl, rn_A pc, rn_A ph, rn_A pa, rn_A se, rn_A ls, rn_A mo, rn_A tl, gp, fs) v1 := by
      unfold wpY_remove
      exact ry_isc _ _ (fun _ => br_t rfl ⟨rfl, R0⟩) (fun c hc q => absurd ⟨c, hc, q⟩ hn)
    refine br_c (fun _ => y) (fun k0 => br_c (fun _ => y) (fun k1 => ?_))
    obtain ⟨c, hc, q⟩ := rn_16 (M := 32) (by omega) k0 k1
    exact absurd ⟨c, hc, q⟩ hn
/-! aim -/
theorem i_vc_aim {k : Nat} {u : SX} {v : SY} (I : i_Rel k u v) (hk : k + 5 ≤ 2560) (v1 : Int32) (v2 : Int32) : wpX_aim (fun r u' => wpY_aim (fun r' v' => r' = r ∧ i_Rel (k + 5) u' v') v v1 v2) u v1 v2 := by
  obtain ⟨ln, fm, tt, le, li, rk, we, op, ca, mk, wd, wn, fa, pc, ph, pa, pe, pt, se, ls, mo, tp, ac, sz, dw, st, ty, ed, fr, sp, go, nz, tk, en, ch, nw, ps, pg, cf, ct, la, gr, cr, ne, nl, oe, ol, fl, tl, tn, kn, N, th, gp, fs, rfl, rfl, I, hW, hN, hT⟩ := I
  have R0 : i_Rel (k + 5) (nI tn, rn_A ln, rn_A fm, rn_A tt, rn_A le, rn_A li, rn_A rk, rn_A we, rn_A op, rn_A ca, rn_A mk, rn_B wd, rn_B wn, rn_A pc, rn_A ph, rn_A pa, rn_A pe, rn_A pt, rn_A tp, rn_A ac, rn_A sz, rn_A dw, rn_A st, rn_A ty, rn_A ed, rn_B ps, rn_A fr, rn_A sp, rn_A go, rn_A nz, rn_B pg, rn_B cf, rn_B ct, rn_A tk, rn_A en, rn_B ch, rn_A nw, rn_A tl) (nI kn, nI tn, th, rn_T ln, rn_A op, rn_A fm, rn_A tt, rn_A le, rn_A ln, rn_A li, rn_A rk, rn_A we, rn_A ca, rn_A mk, rn_A fa, rn_A tp, rn_A ac, rn_A sz, rn_A dw, rn_A st, rn_A ty, rn_A ed, rn_A la, rn_A fr, rn_A sp, rn_A go, rn_A nz, rn_A tk, rn_C ch, rn_A en, rn_A nw, rn_A gr, rn_A cr, rn_A ne, rn_A nl, rn_A oe, rn_A ol, rn_A fl, rn_A pc, rn_A ph, rn_A pa, rn_A se, rn_A ls, rn_A mo, rn_A tl, gp, fs) := rl_rel I hW (by omega) (by omega)
  have hl : ∀ e, ln e ≤ 2 := fun e => (rI_e I.1 e).1
  rcases Classical.em (∃ c, c < 32 ∧ v1 = nI c) with ⟨c, hc, rfl⟩ | hn
  · have ic : vp_in (nI c) 32 := pk_in c 32 hc
    have A := rI_c I.1 c
    have B := rI_e I.1 (ed c)
    have P := rI_p I.1 hc
    have G0 := rI_gd I.1 c hc
    have sr : rn_A st (nI c).toNatClampNeg = nI (st c) := rn_rA (by omega)
    have er : rn_A ed (nI c).toNatClampNeg = nI (ed c) := rn_rA (by omega)
    have gr1 : rn_A go (nI c).toNatClampNeg = nI (go c) := rn_rA (by omega)
    have gg : rn_A gr (nI c).toNatClampNeg = nI (gr c) := rn_rA (by omega)
    have e0 : vp_in (nI (ed c)) 16 := vp_in_nI (by omega) (by omega)
    have rest : rn_A le (nI (ed c)).toNatClampNeg - rn_A fr (nI c).toNatClampNeg = ri_z ((le (ed c) : Int) - fr c) := by rw [rn_rA (by omega), rn_rA (by omega), ri_n, ri_n, ri_sub]
    have spr : rn_A sp (nI c).toNatClampNeg = nI (sp c) := rn_rA (by omega)
    -- Y refuses, or takes the goal
    have yref : ∀ r : Int32, r = 0 → (st c = 0 ∨ (st c = 2 ∧ gr c ≠ 0) ∨ ¬ rq_th ln v2) → wpY_aim (fun r' v' => r' = r ∧ i_Rel (k + 5) (nI tn, rn_A ln, rn_A fm, rn_A tt, rn_A le, rn_A li, rn_A rk, rn_A we, rn_A op, rn_A ca, rn_A mk, rn_B wd, rn_B wn, rn_A pc, rn_A ph, rn_A pa, rn_A pe, rn_A pt, rn_A tp, rn_A ac, rn_A sz, rn_A dw, rn_A st, rn_A ty, rn_A ed, rn_B ps, rn_A fr, rn_A sp, rn_A go, rn_A nz, rn_B pg, rn_B cf, rn_B ct, rn_A tk, rn_A en, rn_B ch, rn_A nw, rn_A tl) v') (nI kn, nI tn, th, rn_T ln, rn_A op, rn_A fm, rn_A tt, rn_A le, rn_A ln, rn_A li, rn_A rk, rn_A we, rn_A ca, rn_A mk, rn_A fa, rn_A tp, rn_A ac, rn_A sz, rn_A dw, rn_A st, rn_A ty, rn_A ed, rn_A la, rn_A fr, rn_A sp, rn_A go, rn_A nz, rn_A tk, rn_C ch, rn_A en, rn_A nw, rn_A gr, rn_A cr, rn_A ne, rn_A nl, rn_A oe, rn_A ol, rn_A fl, rn_A pc, rn_A ph, rn_A pa, rn_A se, rn_A ls, rn_A mo, rn_A tl, gp, fs) (nI c) v2 := by
      intro r hr hb
      subst hr
      unfold wpY_aim
      refine ry_isc _ _ (fun w => absurd ⟨c, hc, rfl⟩ w) (fun c' hc' q => br_f (by decide) ⟨ic, ?_⟩)
      have s35 : ¬ rq_th ln v2 → wY_aim_35 (fun r' v' => r' = 0 ∧ i_Rel (k + 5) (nI tn, rn_A ln, rn_A fm, rn_A tt, rn_A le, rn_A li, rn_A rk, rn_A we, rn_A op, rn_A ca, rn_A mk, rn_B wd, rn_B wn, rn_A pc, rn_A ph, rn_A pa, rn_A pe, rn_A pt, rn_A tp, rn_A ac, rn_A sz, rn_A dw, rn_A st, rn_A ty, rn_A ed, rn_B ps, rn_A fr, rn_A sp, rn_A go, rn_A nz, rn_B pg, rn_B cf, rn_B ct, rn_A tk, rn_A en, rn_B ch, rn_A nw, rn_A tl) v') (nI c) v2 (nI kn) (nI tn) th (rn_T ln) (rn_A op) (rn_A fm) (rn_A tt) (rn_A le) (rn_A ln) (rn_A li) (rn_A rk) (rn_A we) (rn_A ca) (rn_A mk) (rn_A fa) (rn_A tp) (rn_A ac) (rn_A sz) (rn_A dw) (rn_A st) (rn_A ty) (rn_A ed) (rn_A la) (rn_A fr) (rn_A sp) (rn_A go) (rn_A nz) (rn_A tk) (rn_C ch) (rn_A en) (rn_A nw) (rn_A gr) (rn_A cr) (rn_A ne) (rn_A nl) (rn_A oe) (rn_A ol) (rn_A fl) (rn_A pc) (rn_A ph) (rn_A pa) (rn_A se) (rn_A ls) (rn_A mo) (rn_A tl) gp fs := by
        intro w
        unfold wY_aim_35
        exact ry_ie _ _ (rb_b (fun _ => ⟨rfl, R0⟩) (fun z => absurd z w))
      rw [sr, gg]
      refine ek_f (rn_e rfl (b := 0) rfl (by omega) (by omega)) (fun _ => ⟨rfl, R0⟩) (fun z => ⟨ic, ek_f (rn_e rfl (b := 2) rfl (by omega) (by omega)) (fun z2 => ⟨ic, ek_f (rn_e rfl (b := 0) rfl (by omega) (by omega)) (fun z3 => s35 ?_) (fun _ => ⟨rfl, R0⟩)⟩) (fun z2 => s35 ?_)⟩)
      · rcases hb with w | w | w
        · exact absurd w z
        · exact absurd z3 w.2
        · exact w
      · rcases hb with w | w | w
        · exact absurd w z
        · exact absurd w.1 z2
        · exact w
    have ypre : ∀ (post : Int32 → SY → Prop), st c ≠ 0 → pg c = 0 → wY_aim_35 post (nI c) v2 (nI kn) (nI tn) th (rn_T ln) (rn_A op) (rn_A fm) (rn_A tt) (rn_A le) (rn_A ln) (rn_A li) (rn_A rk) (rn_A we) (rn_A ca) (rn_A mk) (rn_A fa) (rn_A tp) (rn_A ac) (rn_A sz) (rn_A dw) (rn_A st) (rn_A ty) (rn_A ed) (rn_A la) (rn_A fr) (rn_A sp) (rn_A go) (rn_A nz) (rn_A tk) (rn_C ch) (rn_A en) (rn_A nw) (rn_A gr) (rn_A cr) (rn_A ne) (rn_A nl) (rn_A oe) (rn_A ol) (rn_A fl) (rn_A pc) (rn_A ph) (rn_A pa) (rn_A se) (rn_A ls) (rn_A mo) (rn_A tl) gp fs → wpY_aim post (nI kn, nI tn, th, rn_T ln, rn_A op, rn_A fm, rn_A tt, rn_A le, rn_A ln, rn_A li, rn_A rk, rn_A we, rn_A ca, rn_A mk, rn_A fa, rn_A tp, rn_A ac, rn_A sz, rn_A dw, rn_A st, rn_A ty, rn_A ed, rn_A la, rn_A fr, rn_A sp, rn_A go, rn_A nz, rn_A tk, rn_C ch, rn_A en, rn_A nw, rn_A gr, rn_A cr, rn_A ne, rn_A nl, rn_A oe, rn_A ol, rn_A fl, rn_A pc, rn_A ph, rn_A pa, rn_A se, rn_A ls, rn_A mo, rn_A tl, gp, fs) (nI c) v2 := by
      intro post z z1 h
      unfold wpY_aim
      refine ry_isc _ _ (fun w => absurd ⟨c, hc, rfl⟩ w) (fun c' hc' q => br_f (by decide) ⟨ic, ?_⟩)
      rw [sr, gg]
      refine ek_f (rn_e rfl (b := 0) rfl (by omega) (by omega)) (fun w => absurd w z) (fun _ => ⟨ic, br_c (fun _ => ⟨ic, ek_f (rn_e rfl (b := 0) rfl (by omega) (by omega)) (fun _ => h) (fun w => by omega)⟩) (fun _ => h)⟩)
    refine br_f (nI_pos (by omega)) (br_f (nI_ge (b := 32) hc (by decide)) (rx_ie _ _ hl (rb_b (fun w => yref 0 rfl (Or.inr (Or.inr w))) (fun ⟨g, hg, q, hlg⟩ => ⟨ic, ?_⟩))))
    subst q
    rw [sr, er, gr1, spr]
    refine ek_f (rn_e rfl (b := 0) rfl (by omega) (by omega)) (fun w => yref 0 rfl (Or.inl w)) (fun z0 => ⟨ic, ek_f (rn_2 (rn_rB (by omega)) (b := 0) rfl (by omega) (by omega)) (fun z1 => ⟨ic, nm_e ⟨ic, ?_⟩⟩) (fun z1 => yref 0 rfl (Or.inr (Or.inl (by omega))))⟩)
    -- the goal is taken
    have take : (0 < ps c → g ≠ rd_q (ps c) → rd_D (sp c) + fr c ≤ le (rd_q (ps c))) → i_Rel (k + 5) (nI tn, rn_A ln, rn_A fm, rn_A tt, rn_A le, rn_A li, rn_A rk, rn_A we, rn_A op, rn_A ca, rn_A mk, rn_B wd, rn_B wn, rn_A pc, rn_A ph, rn_A pa, rn_A pe, rn_A pt, rn_A tp, rn_A ac, rn_A sz, rn_A dw, rn_A st, rn_A ty, rn_A ed, rn_B ps, rn_A fr, rn_A sp, rn_A (ru_p go c g), rn_A nz, rn_B pg, rn_B cf, rn_B ct, rn_A tk, rn_A en, rn_B ch, rn_A nw, rn_A tl) (nI kn, nI tn, th, rn_T ln, rn_A op, rn_A fm, rn_A tt, rn_A le, rn_A ln, rn_A li, rn_A rk, rn_A we, rn_A ca, rn_A mk, rn_A fa, rn_A tp, rn_A ac, rn_A sz, rn_A dw, rn_A st, rn_A ty, rn_A ed, rn_A la, rn_A fr, rn_A sp, rn_A (ru_p go c g), rn_A nz, rn_A tk, rn_C ch, rn_A en, rn_A nw, rn_A gr, rn_A cr, rn_A ne, rn_A nl, rn_A oe, rn_A ol, rn_A fl, rn_A pc, rn_A ph, rn_A pa, rn_A se, rn_A ls, rn_A mo, rn_A tl, gp, fs) := by
      intro h
      refine rl_rel ⟨⟨I.1.1, ⟨fun d => ?_, fun d hd => ?_⟩, I.1.2.2⟩, rd_aim I.2 z1 h⟩ hW (by omega) (by omega)
      · have a := I.1.2.1.1 d
        rcases Nat.decEq d c with w | w
        · rw [ru_n w]; exact a
        · subst w; rw [ru_s]; omega
      · obtain ⟨b1, b2, b3, b4, b5⟩ := I.1.2.1.2 d hd
        rcases Nat.decEq d c with w | w
        · rw [ru_n w]; exact ⟨b1, b2, b3, b4, b5⟩
        · subst w; rw [ru_s]; exact ⟨fun y => ⟨(b1 y).1, hlg⟩, b2, b3, b4, b5⟩
    have y84 : ∀ r : Int32, r = 1 → i_Rel (k + 5) (nI tn, rn_A ln, rn_A fm, rn_A tt, rn_A le, rn_A li, rn_A rk, rn_A we, rn_A op, rn_A ca, rn_A mk, rn_B wd, rn_B wn, rn_A pc, rn_A ph, rn_A pa, rn_A pe, rn_A pt, rn_A tp, rn_A ac, rn_A sz, rn_A dw, rn_A st, rn_A ty, rn_A ed, rn_B ps, rn_A fr, rn_A sp, rn_A (ru_p go c g), rn_A nz, rn_B pg, rn_B cf, rn_B ct, rn_A tk, rn_A en, rn_B ch, rn_A nw, rn_A tl) (nI kn, nI tn, th, rn_T ln, rn_A op, rn_A fm, rn_A tt, rn_A le, rn_A ln, rn_A li, rn_A rk, rn_A we, rn_A ca, rn_A mk, rn_A fa, rn_A tp, rn_A ac, rn_A sz, rn_A dw, rn_A st, rn_A ty, rn_A ed, rn_A la, rn_A fr, rn_A sp, rn_A (ru_p go c g), rn_A nz, rn_A tk, rn_C ch, rn_A en, rn_A nw, rn_A gr, rn_A cr, rn_A ne, rn_A nl, rn_A oe, rn_A ol, rn_A fl, rn_A pc, rn_A ph, rn_A pa, rn_A se, rn_A ls, rn_A mo, rn_A tl, gp, fs) → wY_aim_84 (fun r' v' => r' = r ∧ i_Rel (k + 5) (nI tn, rn_A ln, rn_A fm, rn_A tt, rn_A le, rn_A li, rn_A rk, rn_A we, rn_A op, rn_A ca, rn_A mk, rn_B wd, rn_B wn, rn_A pc, rn_A ph, rn_A pa, rn_A pe, rn_A pt, rn_A tp, rn_A ac, rn_A sz, rn_A dw, rn_A st, rn_A ty, rn_A ed, rn_B ps, rn_A fr, rn_A sp, rn_A (ru_p go c g), rn_A nz, rn_B pg, rn_B cf, rn_B ct, rn_A tk, rn_A en, rn_B ch, rn_A nw, rn_A tl) v') (nI c) (nI g) (nI kn) (nI tn) th (rn_T ln) (rn_A op) (rn_A fm) (rn_A tt) (rn_A le) (rn_A ln) (rn_A li) (rn_A rk) (rn_A we) (rn_A ca) (rn_A mk) (rn_A fa) (rn_A tp) (rn_A ac) (rn_A sz) (rn_A dw) (rn_A st) (rn_A ty) (rn_A ed) (rn_A la) (rn_A fr) (rn_A sp) (rn_A go) (rn_A nz) (rn_A tk) (rn_C ch) (rn_A en) (rn_A nw) (rn_A gr) (rn_A cr) (rn_A ne) (rn_A nl) (rn_A oe) (rn_A ol) (rn_A fl) (rn_A pc) (rn_A ph) (rn_A pa) (rn_A se) (rn_A ls) (rn_A mo) (rn_A tl) gp fs := by
      intro r hr h
      subst hr
      refine ⟨ic, ?_⟩
      rw [er]
      exact ⟨e0, ic, nm_e (br_t rfl ⟨ic, nm_r (rn_uA (by omega)) ⟨rfl, h⟩⟩)⟩
    have y35 : ∀ (post : Int32 → SY → Prop), (¬ (st c = 2 ∧ go c = ed c ∧ g ≠ ed c) → wY_aim_84 post (nI c) (nI g) (nI kn) (nI tn) th (rn_T ln) (rn_A op) (rn_A fm) (rn_A tt) (rn_A le) (rn_A ln) (rn_A li) (rn_A rk) (rn_A we) (rn_A ca) (rn_A mk) (rn_A fa) (rn_A tp) (rn_A ac) (rn_A sz) (rn_A dw) (rn_A st) (rn_A ty) (rn_A ed) (rn_A la) (rn_A fr) (rn_A sp) (rn_A go) (rn_A nz) (rn_A tk) (rn_C ch) (rn_A en) (rn_A nw) (rn_A gr) (rn_A cr) (rn_A ne) (rn_A nl) (rn_A oe) (rn_A ol) (rn_A fl) (rn_A pc) (rn_A ph) (rn_A pa) (rn_A se) (rn_A ls) (rn_A mo) (rn_A tl) gp fs) → ((st c = 2 ∧ go c = ed c ∧ g ≠ ed c) → wY_aim_85 post (nI c) (nI g) 1 (nI kn) (nI tn) th (rn_T ln) (rn_A op) (rn_A fm) (rn_A tt) (rn_A le) (rn_A ln) (rn_A li) (rn_A rk) (rn_A we) (rn_A ca) (rn_A mk) (rn_A fa) (rn_A tp) (rn_A ac) (rn_A sz) (rn_A dw) (rn_A st) (rn_A ty) (rn_A ed) (rn_A la) (rn_A fr) (rn_A sp) (rn_A go) (rn_A nz) (rn_A tk) (rn_C ch) (rn_A en) (rn_A nw) (rn_A gr) (rn_A cr) (rn_A ne) (rn_A nl) (rn_A oe) (rn_A ol) (rn_A fl) (rn_A pc) (rn_A ph) (rn_A pa) (rn_A se) (rn_A ls) (rn_A mo) (rn_A tl) gp fs) → wY_aim_35 post (nI c) (nI g) (nI kn) (nI tn) th (rn_T ln) (rn_A op) (rn_A fm) (rn_A tt) (rn_A le) (rn_A ln) (rn_A li) (rn_A rk) (rn_A we) (rn_A ca) (rn_A mk) (rn_A fa) (rn_A tp) (rn_A ac) (rn_A sz) (rn_A dw) (rn_A st) (rn_A ty) (rn_A ed) (rn_A la) (rn_A fr) (rn_A sp) (rn_A go) (rn_A nz) (rn_A tk) (rn_C ch) (rn_A en) (rn_A nw) (rn_A gr) (rn_A cr) (rn_A ne) (rn_A nl) (rn_A oe) (rn_A ol) (rn_A fl) (rn_A pc) (rn_A ph) (rn_A pa) (rn_A se) (rn_A ls) (rn_A mo) (rn_A tl) gp fs := by
      intro post h1 h2
      unfold wY_aim_35
      refine ry_ie _ _ (rb_b (fun w => absurd ⟨g, hg, rfl, hlg⟩ w) (fun _ => ⟨ic, ?_⟩))
      rw [sr, er, gr1]
      refine ek_f (rn_e rfl (b := 2) rfl (by omega) (by omega)) (fun y1 => ⟨ic, ic, ek_f (rn_e rfl rfl (by omega) (by omega)) (fun y2 => ⟨ic, ek_f (rn_e rfl rfl (by omega) (by omega)) (fun y3 => h1 (fun w => w.2.2 y3)) (fun y3 => h2 ⟨y1, y2.symm, y3⟩)⟩) (fun y2 => h1 (fun w => y2 w.2.1.symm))⟩) (fun y1 => h1 (fun w => y1 w.1))
    have easy : ¬ (st c = 2 ∧ go c = ed c ∧ g ≠ ed c) → (0 < ps c → g ≠ rd_q (ps c) → rd_D (sp c) + fr c ≤ le (rd_q (ps c))) := by
      intro w p0 gn
      have s2 : st c = 2 := by
        rcases Nat.decEq (st c) 2 with y | y
        · have := (P.2.2.2.2.1 y).1; omega
        · exact y
      have q1 := (rq_psE I.1.2.1 hc s2).1
      refine (I.2.2.2.1 c hc p0).1 z1 (fun y => w ⟨s2, by rw [← q1]; exact y, ?_⟩)
      rw [← q1]; exact gn
    have xgo : ∀ (post : Int32 → SX → Prop), post 1 (nI tn, rn_A ln, rn_A fm, rn_A tt, rn_A le, rn_A li, rn_A rk, rn_A we, rn_A op, rn_A ca, rn_A mk, rn_B wd, rn_B wn, rn_A pc, rn_A ph, rn_A pa, rn_A pe, rn_A pt, rn_A tp, rn_A ac, rn_A sz, rn_A dw, rn_A st, rn_A ty, rn_A ed, rn_B ps, rn_A fr, rn_A sp, rn_A (ru_p go c g), rn_A nz, rn_B pg, rn_B cf, rn_B ct, rn_A tk, rn_A en, rn_B ch, rn_A nw, rn_A tl) → vp_in (nI c) 32 ∧ ∀ a, a = upd (rn_A go) (nI c).toNatClampNeg (nI g) → post 1 (nI tn, rn_A ln, rn_A fm, rn_A tt, rn_A le, rn_A li, rn_A rk, rn_A we, rn_A op, rn_A ca, rn_A mk, rn_B wd, rn_B wn, rn_A pc, rn_A ph, rn_A pa, rn_A pe, rn_A pt, rn_A tp, rn_A ac, rn_A sz, rn_A dw, rn_A st, rn_A ty, rn_A ed, rn_B ps, rn_A fr, rn_A sp, a, rn_A nz, rn_B pg, rn_B cf, rn_B ct, rn_A tk, rn_A en, rn_B ch, rn_A nw, rn_A tl) := fun post h => ⟨ic, nm_r (rn_uA (by omega)) h⟩
    refine ek_f (rn_e rfl (b := 2) rfl (by omega) (by omega)) (fun y1 => ⟨ic, ek_f (rn_e rfl rfl (by omega) (by omega)) (fun y2 => ek_f (rn_e rfl rfl (by omega) (by omega)) (fun y3 => ?_) (fun y3 => ⟨ic, e0, ic, ?_⟩)) (fun y2 => ?_)⟩) (fun y1 => ?_)
    · have w : ¬ (st c = 2 ∧ go c = ed c ∧ g ≠ ed c) := fun w => w.2.2 y3
      exact ⟨ic, nm_r (rn_uA (by omega)) (ypre _ z0 z1 (y35 _ (fun _ => y84 1 rfl (take (easy w))) (fun v => absurd v w)))⟩
    · have q1 := (rq_psE I.1.2.1 hc y1).1
      have F := rI_fre I hc y1
      have dd := rn_D12 (sp c) (by omega)
      have y85 : ∀ (r : Int32) (X : SX) (Y : SY), ((rd_D (sp c) + fr c ≤ le (ed c)) → r = 1 ∧ i_Rel (k + 5) X (nI kn, nI tn, th, rn_T ln, rn_A op, rn_A fm, rn_A tt, rn_A le, rn_A ln, rn_A li, rn_A rk, rn_A we, rn_A ca, rn_A mk, rn_A fa, rn_A tp, rn_A ac, rn_A sz, rn_A dw, rn_A st, rn_A ty, rn_A ed, rn_A la, rn_A fr, rn_A sp, rn_A (ru_p go c g), rn_A nz, rn_A tk, rn_C ch, rn_A en, rn_A nw, rn_A gr, rn_A cr, rn_A ne, rn_A nl, rn_A oe, rn_A ol, rn_A fl, rn_A pc, rn_A ph, rn_A pa, rn_A se, rn_A ls, rn_A mo, rn_A tl, gp, fs)) → (¬ (rd_D (sp c) + fr c ≤ le (ed c)) → r = 0 ∧ i_Rel (k + 5) X (nI kn, nI tn, th, rn_T ln, rn_A op, rn_A fm, rn_A tt, rn_A le, rn_A ln, rn_A li, rn_A rk, rn_A we, rn_A ca, rn_A mk, rn_A fa, rn_A tp, rn_A ac, rn_A sz, rn_A dw, rn_A st, rn_A ty, rn_A ed, rn_A la, rn_A fr, rn_A sp, rn_A go, rn_A nz, rn_A tk, rn_C ch, rn_A en, rn_A nw, rn_A gr, rn_A cr, rn_A ne, rn_A nl, rn_A oe, rn_A ol, rn_A fl, rn_A pc, rn_A ph, rn_A pa, rn_A se, rn_A ls, rn_A mo, rn_A tl, gp, fs)) → wY_aim_85 (fun r' v' => r' = r ∧ i_Rel (k + 5) X v') (nI c) (nI g) 1 (nI kn) (nI tn) th (rn_T ln) (rn_A op) (rn_A fm) (rn_A tt) (rn_A le) (rn_A ln) (rn_A li) (rn_A rk) (rn_A we) (rn_A ca) (rn_A mk) (rn_A fa) (rn_A tp) (rn_A ac) (rn_A sz) (rn_A dw) (rn_A st) (rn_A ty) (rn_A ed) (rn_A la) (rn_A fr) (rn_A sp) (rn_A go) (rn_A nz) (rn_A tk) (rn_C ch) (rn_A en) (rn_A nw) (rn_A gr) (rn_A cr) (rn_A ne) (rn_A nl) (rn_A oe) (rn_A ol) (rn_A fl) (rn_A pc) (rn_A ph) (rn_A pa) (rn_A se) (rn_A ls) (rn_A mo) (rn_A tl) gp fs := by
        intro r X Y h1 h0
        refine ⟨ic, ?_⟩
        rw [er]
        refine ⟨e0, ic, nm_r rest (br_f (by decide) ⟨ic, ?_⟩)⟩
        rw [spr]
        refine ry_safe _ (w := 0) (by omega) (by omega) (by omega) (rb_b (fun w => ?_) (fun w => ?_))
        · have := h0 (fun v => w ⟨by omega, by rw [rd_D0]; omega⟩)
          exact ⟨this.1.symm, this.2⟩
        · have := h1 (by have := w.2; rw [rd_D0] at this; omega)
          exact ⟨ic, nm_r (rn_uA (by omega)) ⟨this.1.symm, this.2⟩⟩
      rw [rest]
      refine rx_safe _ (w := 0) (by omega) (by omega) (by omega) (rb_b (fun w => ?_) (fun w => ⟨ic, nm_r (rn_uA (by omega)) ?_⟩))
      · have nn : ¬ (rd_D (sp c) + fr c ≤ le (ed c)) := fun v => w ⟨by omega, by rw [rd_D0]; omega⟩
        exact ypre _ z0 z1 (y35 _ (fun v => absurd ⟨y1, y2, y3⟩ v) (fun _ => y85 0 _ (nI kn, nI tn, th, rn_T ln, rn_A op, rn_A fm, rn_A tt, rn_A le, rn_A ln, rn_A li, rn_A rk, rn_A we, rn_A ca, rn_A mk, rn_A fa, rn_A tp, rn_A ac, rn_A sz, rn_A dw, rn_A st, rn_A ty, rn_A ed, rn_A la, rn_A fr, rn_A sp, rn_A go, rn_A nz, rn_A tk, rn_C ch, rn_A en, rn_A nw, rn_A gr, rn_A cr, rn_A ne, rn_A nl, rn_A oe, rn_A ol, rn_A fl, rn_A pc, rn_A ph, rn_A pa, rn_A se, rn_A ls, rn_A mo, rn_A tl, gp, fs) (fun v => absurd v nn) (fun _ => ⟨rfl, R0⟩)))
      · have yy : rd_D (sp c) + fr c ≤ le (ed c) := by have := w.2; rw [rd_D0] at this; omega
        exact ypre _ z0 z1 (y35 _ (fun v => absurd ⟨y1, y2, y3⟩ v) (fun _ => y85 1 _ (nI kn, nI tn, th, rn_T ln, rn_A op, rn_A fm, rn_A tt, rn_A le, rn_A ln, rn_A li, rn_A rk, rn_A we, rn_A ca, rn_A mk, rn_A fa, rn_A tp, rn_A ac, rn_A sz, rn_A dw, rn_A st, rn_A ty, rn_A ed, rn_A la, rn_A fr, rn_A sp, rn_A go, rn_A nz, rn_A tk, rn_C ch, rn_A en, rn_A nw, rn_A gr, rn_A cr, rn_A ne, rn_A nl, rn_A oe, rn_A ol, rn_A fl, rn_A pc, rn_A ph, rn_A pa, rn_A se, rn_A ls, rn_A mo, rn_A tl, gp, fs) (fun _ => ⟨rfl, take (fun _ _ => by rw [q1]; exact yy)⟩) (fun v => absurd yy v)))
    · have w : ¬ (st c = 2 ∧ go c = ed c ∧ g ≠ ed c) := fun w => y2 w.2.1
      exact ⟨ic, nm_r (rn_uA (by omega)) (ypre _ z0 z1 (y35 _ (fun _ => y84 1 rfl (take (easy w))) (fun v => absurd v w)))⟩
    · have w : ¬ (st c = 2 ∧ go c = ed c ∧ g ≠ ed c) := fun w => y1 w.1
      exact ⟨ic, nm_r (rn_uA (by omega)) (ypre _ z0 z1 (y35 _ (fun _ => y84 1 rfl (take (easy w))) (fun v => absurd v w)))⟩
  · have y : wpY_aim (fun r' v' => r' = 0 ∧ i_Rel (k + 5) (nI tn, rn_A ln, rn_A fm, rn_A tt, rn_A le, rn_A li, rn_A rk, rn_A we, rn_A op, rn_A ca, rn_A mk, rn_B wd, rn_B wn, rn_A pc, rn_A ph, rn_A pa, rn_A pe, rn_A pt, rn_A tp, rn_A ac, rn_A sz, rn_A dw, rn_A st, rn_A ty, rn_A ed, rn_B ps, rn_A fr, rn_A sp, rn_A go, rn_A nz, rn_B pg, rn_B cf, rn_B ct, rn_A tk, rn_A en, rn_B ch, rn_A nw, rn_A tl) v') (nI kn, nI tn, th, rn_T ln, rn_A op, rn_A fm, rn_A tt, rn_A le, rn_A ln, rn_A li, rn_A rk, rn_A we, rn_A ca, rn_A mk, rn_A fa, rn_A tp, rn_A ac, rn_A sz, rn_A dw, rn_A st, rn_A ty, rn_A ed, rn_A la, rn_A fr, rn_A sp, rn_A go, rn_A nz, rn_A tk, rn_C ch, rn_A en, rn_A nw, rn_A gr, rn_A cr, rn_A ne, rn_A nl, rn_A oe, rn_A ol, rn_A fl, rn_A pc, rn_A ph, rn_A pa, rn_A se, rn_A ls, rn_A mo, rn_A tl, gp, fs) v1 v2 := by
      unfold wpY_aim
      exact ry_isc _ _ (fun _ => br_t rfl ⟨rfl, R0⟩) (fun c hc q => absurd ⟨c, hc, q⟩ hn)
    refine br_c (fun _ => y) (fun k0 => br_c (fun _ => y) (fun k1 => ?_))
    obtain ⟨c, hc, q⟩ := rn_16 (M := 32) (by omega) k0 k1
    exact absurd ⟨c, hc, q⟩ hn
end
section
/-! run, way, road, of -/
theorem i_vc_run {k : Nat} {u : SX} {v : SY} (I : i_Rel k u v) (hk : k + 5 ≤ 2560) (v1 : Int32) : wpX_run (fun r u' => wpY_run (fun r' v' => r' = r ∧ i_Rel (k + 5) u' v') v v1) u v1 := by
  obtain ⟨ln, fm, tt, le, li, rk, we, op, ca, mk, wd, wn, fa, pc, ph, pa, pe, pt, se, ls, mo, tp, ac, sz, dw, st, ty, ed, fr, sp, go, nz, tk, en, ch, nw, ps, pg, cf, ct, la, gr, cr, ne, nl, oe, ol, fl, tl, tn, kn, N, th, gp, fs, rfl, rfl, I, hW, hN, hT⟩ := I
  rcases Classical.em (∃ n, n ≤ 20 ∧ v1 = nI n) with ⟨n, hn, rfl⟩ | hn
  · obtain ⟨ph', pa', ps', la', ch', tl', pg', gr', ne', nl', nz', nw', ca', st', ed', fr', sp', cf', ct', cr', oe', ol', fl', en', I', x, y⟩ := rl_run hn n 0 (by omega) ph pa ps la ch tl pg gr ne nl nz nw ca st ed fr sp cf ct cr oe ol fl en N I (by omega)
    refine br_f (nI_pos (by omega)) (br_t (nI_le (b := 20) hn (by decide)) ⟨n + 1, x _ ?_⟩)
    unfold wpY_run
    exact ry_in _ _ _ _ (rb_b (fun w => absurd ⟨nI_pos (by omega), nI_nlt (a := 20) hn (by decide)⟩ w) (fun _ => ⟨n + 1, y _ kn fa gp fs th hW (fun kn fa gp fs th hW' => ⟨rfl, rl_rel I' hW' (by omega) (by omega)⟩)⟩))
  · have yr : wpY_run (fun r' v' => r' = -1 ∧ i_Rel (k + 5) (nI tn, rn_A ln, rn_A fm, rn_A tt, rn_A le, rn_A li, rn_A rk, rn_A we, rn_A op, rn_A ca, rn_A mk, rn_B wd, rn_B wn, rn_A pc, rn_A ph, rn_A pa, rn_A pe, rn_A pt, rn_A tp, rn_A ac, rn_A sz, rn_A dw, rn_A st, rn_A ty, rn_A ed, rn_B ps, rn_A fr, rn_A sp, rn_A go, rn_A nz, rn_B pg, rn_B cf, rn_B ct, rn_A tk, rn_A en, rn_B ch, rn_A nw, rn_A tl) v') (nI kn, nI tn, th, rn_T ln, rn_A op, rn_A fm, rn_A tt, rn_A le, rn_A ln, rn_A li, rn_A rk, rn_A we, rn_A ca, rn_A mk, rn_A fa, rn_A tp, rn_A ac, rn_A sz, rn_A dw, rn_A st, rn_A ty, rn_A ed, rn_A la, rn_A fr, rn_A sp, rn_A go, rn_A nz, rn_A tk, rn_C ch, rn_A en, rn_A nw, rn_A gr, rn_A cr, rn_A ne, rn_A nl, rn_A oe, rn_A ol, rn_A fl, rn_A pc, rn_A ph, rn_A pa, rn_A se, rn_A ls, rn_A mo, rn_A tl, gp, fs) v1 := by
      unfold wpY_run
      refine ry_in _ _ _ _ (rb_b (fun _ => ⟨rfl, rl_rel I hW (by omega) (by omega)⟩) (fun w => ?_))
      obtain ⟨n, q, _, h2⟩ := rn_rg (a := 0) (b := 20) (by omega) (by omega) w.1 w.2
      exact absurd ⟨n, h2, q⟩ hn
    refine br_c (fun _ => yr) (fun k0 => br_c (fun k1 => ?_) (fun _ => yr))
    obtain ⟨n, q, _, h2⟩ := rn_rg (a := 0) (b := 20) (by omega) (by omega) k0 (Int32.not_lt.mpr k1)
    exact absurd ⟨n, h2, q⟩ hn
/-! way -/
theorem i_vc_way {k : Nat} {u : SX} {v : SY} (I : i_Rel k u v) (hk : k + 5 ≤ 2560) (v1 : Int32) (v2 : Int32) (v3 : Int32) : wpX_way (fun r => wpY_way (fun r' v' => r' = r ∧ i_Rel (k + 5) u v') v v1 v2 v3) u v1 v2 v3 := by
  obtain ⟨ln, fm, tt, le, li, rk, we, op, ca, mk, wd, wn, fa, pc, ph, pa, pe, pt, se, ls, mo, tp, ac, sz, dw, st, ty, ed, fr, sp, go, nz, tk, en, ch, nw, ps, pg, cf, ct, la, gr, cr, ne, nl, oe, ol, fl, tl, tn, kn, N, th, gp, fs, rfl, rfl, I, hW, hN, hT⟩ := I
  have R0 : i_Rel (k + 5) (nI tn, rn_A ln, rn_A fm, rn_A tt, rn_A le, rn_A li, rn_A rk, rn_A we, rn_A op, rn_A ca, rn_A mk, rn_B wd, rn_B wn, rn_A pc, rn_A ph, rn_A pa, rn_A pe, rn_A pt, rn_A tp, rn_A ac, rn_A sz, rn_A dw, rn_A st, rn_A ty, rn_A ed, rn_B ps, rn_A fr, rn_A sp, rn_A go, rn_A nz, rn_B pg, rn_B cf, rn_B ct, rn_A tk, rn_A en, rn_B ch, rn_A nw, rn_A tl) (nI kn, nI tn, th, rn_T ln, rn_A op, rn_A fm, rn_A tt, rn_A le, rn_A ln, rn_A li, rn_A rk, rn_A we, rn_A ca, rn_A mk, rn_A fa, rn_A tp, rn_A ac, rn_A sz, rn_A dw, rn_A st, rn_A ty, rn_A ed, rn_A la, rn_A fr, rn_A sp, rn_A go, rn_A nz, rn_A tk, rn_C ch, rn_A en, rn_A nw, rn_A gr, rn_A cr, rn_A ne, rn_A nl, rn_A oe, rn_A ol, rn_A fl, rn_A pc, rn_A ph, rn_A pa, rn_A se, rn_A ls, rn_A mo, rn_A tl, gp, fs) := rl_rel I hW (by omega) (by omega)
  have hl : ∀ e, ln e ≤ 2 := fun e => (rI_e I.1 e).1
  rcases Classical.em (rq_th ln v1 ∧ rq_th ln v2 ∧ (v3 = 0 ∨ v3 = 1)) with ⟨⟨e, he, rfl, hle⟩, ⟨g, hg, rfl, hlg⟩, h3⟩ | hn
  · have ix : (16 : Int32) * nI e + nI g = nI (16 * e + g) := by rw [show (16 : Int32) * nI e = nI (16 * e) from pk_mul 16 _, nI_add]
    have iy : (16 : Int32) * nI g + nI e = nI (16 * g + e) := by rw [show (16 : Int32) * nI g = nI (16 * g) from pk_mul 16 _, nI_add]
    have is : vp_in (nI (16 * e + g)) 256 := vp_in_nI (by omega) (by omega)
    have it : vp_in (nI (16 * g + e)) 256 := vp_in_nI (by omega) (by omega)
    have t1 : rq_th ln (nI e) := ⟨e, he, rfl, hle⟩
    have t2 : rq_th ln (nI g) := ⟨g, hg, rfl, hlg⟩
    -- Y's answer
    have ya : ∀ r : Int32, (v3 = 1 → r = rn_c (wn (16 * e + g))) → (v3 = 0 → r = rn_c (wd (16 * e + g))) → wpY_way (fun r' v' => r' = r ∧ i_Rel (k + 5) (nI tn, rn_A ln, rn_A fm, rn_A tt, rn_A le, rn_A li, rn_A rk, rn_A we, rn_A op, rn_A ca, rn_A mk, rn_B wd, rn_B wn, rn_A pc, rn_A ph, rn_A pa, rn_A pe, rn_A pt, rn_A tp, rn_A ac, rn_A sz, rn_A dw, rn_A st, rn_A ty, rn_A ed, rn_B ps, rn_A fr, rn_A sp, rn_A go, rn_A nz, rn_B pg, rn_B cf, rn_B ct, rn_A tk, rn_A en, rn_B ch, rn_A nw, rn_A tl) v') (nI kn, nI tn, th, rn_T ln, rn_A op, rn_A fm, rn_A tt, rn_A le, rn_A ln, rn_A li, rn_A rk, rn_A we, rn_A ca, rn_A mk, rn_A fa, rn_A tp, rn_A ac, rn_A sz, rn_A dw, rn_A st, rn_A ty, rn_A ed, rn_A la, rn_A fr, rn_A sp, rn_A go, rn_A nz, rn_A tk, rn_C ch, rn_A en, rn_A nw, rn_A gr, rn_A cr, rn_A ne, rn_A nl, rn_A oe, rn_A ol, rn_A fl, rn_A pc, rn_A ph, rn_A pa, rn_A se, rn_A ls, rn_A mo, rn_A tl, gp, fs) (nI e) (nI g) v3 := by
      intro r r1 r0
      unfold wpY_way
      refine ry_ie _ _ (rb_b (fun w => absurd t1 w) (fun _ => ry_ie _ _ (rb_b (fun w => absurd t2 w) (fun _ => ry_in _ _ _ _ (rb_b (fun w => absurd ?_ w) (fun _ => ry_next _ rfl rfl I.1.1 I.1.2.2.2.2.1 hW he hg (fun fa hF => ?_)))))))
      · rcases h3 with z | z
        · subst z; exact ⟨by decide, by decide⟩
        · subst z; exact ⟨by decide, by decide⟩
      · have R1 : i_Rel (k + 5) (nI tn, rn_A ln, rn_A fm, rn_A tt, rn_A le, rn_A li, rn_A rk, rn_A we, rn_A op, rn_A ca, rn_A mk, rn_B wd, rn_B wn, rn_A pc, rn_A ph, rn_A pa, rn_A pe, rn_A pt, rn_A tp, rn_A ac, rn_A sz, rn_A dw, rn_A st, rn_A ty, rn_A ed, rn_B ps, rn_A fr, rn_A sp, rn_A go, rn_A nz, rn_B pg, rn_B cf, rn_B ct, rn_A tk, rn_A en, rn_B ch, rn_A nw, rn_A tl) (nI 1, nI tn, th, rn_T ln, rn_A op, rn_A fm, rn_A tt, rn_A le, rn_A ln, rn_A li, rn_A rk, rn_A we, rn_A ca, rn_A mk, rn_A fa, rn_A tp, rn_A ac, rn_A sz, rn_A dw, rn_A st, rn_A ty, rn_A ed, rn_A la, rn_A fr, rn_A sp, rn_A go, rn_A nz, rn_A tk, rn_C ch, rn_A en, rn_A nw, rn_A gr, rn_A cr, rn_A ne, rn_A nl, rn_A oe, rn_A ol, rn_A fl, rn_A pc, rn_A ph, rn_A pa, rn_A se, rn_A ls, rn_A mo, rn_A tl, gp, fs) := rl_rel (kn := 1) I (Or.inr ⟨rfl, hF⟩) (by omega) (by omega)
        have D := rq_distY I.1.1 I.1.2.2.2.2.1 hg (hF g hg) he
        have F1 : fa (16 * g + e) ≤ 1000000 := (hF g hg).1.1 e he
        refine br_c (fun z => ⟨(r1 z).symm, R1⟩) (fun z => ?_)
        have z0 : v3 = 0 := h3.elim id (fun w => absurd w z)
        rw [iy, rn_rA (by omega)]
        refine ⟨it, pk_lt (fa (16 * g + e)) 1000000 (fun w => ⟨it, ?_⟩) (fun w => ?_)⟩
        · rw [if_pos w] at D
          rw [r0 z0, D]
          exact ⟨rfl, R1⟩
        · rw [if_neg (by omega)] at D
          rw [r0 z0, D]
          exact ⟨rfl, R1⟩
    unfold wpX_way
    refine rx_ie _ _ hl (rb_b (fun w => absurd t1 w) (fun _ => rx_ie _ _ hl (rb_b (fun w => absurd t2 w) (fun _ => ?_))))
    rw [ix, rn_rB (by omega), rn_rB (by omega)]
    rcases h3 with z | z
    · subst z
      exact br_f (by decide) (br_t (by decide) (br_t rfl ⟨is, ya _ (fun w => absurd w (by decide)) (fun _ => rfl)⟩))
    · subst z
      exact br_f (by decide) (br_t (by decide) (br_f (by decide) ⟨is, ya _ (fun _ => rfl) (fun w => absurd w (by decide))⟩))
  · have in01 : ∀ x : Int32, ¬ x < 0 → ¬ 1 < x → x = 0 ∨ x = 1 := by
      intro x h1 h2
      obtain ⟨w, q, _, hw⟩ := rn_rg (a := 0) (b := 1) (by omega) (by omega) h1 h2
      subst q
      rcases Nat.eq_zero_or_pos w with z | z
      · subst z; exact Or.inl rfl
      · have : w = 1 := by omega
        subst this; exact Or.inr rfl
    have yr : wpY_way (fun r' v' => r' = -1 ∧ i_Rel (k + 5) (nI tn, rn_A ln, rn_A fm, rn_A tt, rn_A le, rn_A li, rn_A rk, rn_A we, rn_A op, rn_A ca, rn_A mk, rn_B wd, rn_B wn, rn_A pc, rn_A ph, rn_A pa, rn_A pe, rn_A pt, rn_A tp, rn_A ac, rn_A sz, rn_A dw, rn_A st, rn_A ty, rn_A ed, rn_B ps, rn_A fr, rn_A sp, rn_A go, rn_A nz, rn_B pg, rn_B cf, rn_B ct, rn_A tk, rn_A en, rn_B ch, rn_A nw, rn_A tl) v') (nI kn, nI tn, th, rn_T ln, rn_A op, rn_A fm, rn_A tt, rn_A le, rn_A ln, rn_A li, rn_A rk, rn_A we, rn_A ca, rn_A mk, rn_A fa, rn_A tp, rn_A ac, rn_A sz, rn_A dw, rn_A st, rn_A ty, rn_A ed, rn_A la, rn_A fr, rn_A sp, rn_A go, rn_A nz, rn_A tk, rn_C ch, rn_A en, rn_A nw, rn_A gr, rn_A cr, rn_A ne, rn_A nl, rn_A oe, rn_A ol, rn_A fl, rn_A pc, rn_A ph, rn_A pa, rn_A se, rn_A ls, rn_A mo, rn_A tl, gp, fs) v1 v2 v3 := by
      unfold wpY_way
      exact ry_ie _ _ (rb_b (fun _ => ⟨rfl, R0⟩) (fun t1 => ry_ie _ _ (rb_b (fun _ => ⟨rfl, R0⟩) (fun t2 => ry_in _ _ _ _ (rb_b (fun _ => ⟨rfl, R0⟩) (fun w => absurd ⟨t1, t2, in01 _ w.1 w.2⟩ hn))))))
    unfold wpX_way
    exact rx_ie _ _ hl (rb_b (fun _ => yr) (fun t1 => rx_ie _ _ hl (rb_b (fun _ => yr) (fun t2 => br_c (fun _ => yr) (fun k0 => br_c (fun k1 => absurd ⟨t1, t2, in01 _ k0 (Int32.not_lt.mpr k1)⟩ hn) (fun _ => yr))))))
/-! road -/
def rd_cc (st ed : Nat → Nat) (s e : Nat) : Nat → Nat
  | 0 => 0
  | i + 1 => rd_cc st ed s e i + (if st i = s ∧ ed i = e then 1 else 0)
section
variable {ln fm tt le li rk we op ca mk wd wn fa pc ph pa pe pt se ls mo tp ac sz dw st ty ed fr sp go nz tk en ch nw ps pg cf ct la gr cr ne nl oe ol fl tl : Nat → Nat} {tn kn N : Nat} {th : Int32} {gp fs : Nat → Int32}
theorem rd_ccP {s e i : Nat} (h : st i = s ∧ ed i = e) : rd_cc st ed s e (i + 1) = rd_cc st ed s e i + 1 := by simp only [rd_cc]; rw [if_pos h]
theorem rd_ccQ {s e i : Nat} (h : ¬ (st i = s ∧ ed i = e)) : rd_cc st ed s e (i + 1) = rd_cc st ed s e i := by simp only [rd_cc]; rw [if_neg h]; rfl
theorem rx_cc (post : Int32 → Prop) {e s : Nat} {x y : Int32} (hx : x = nI e) (hy : y = nI s) (I : (rq_L ln fm tt le li rk we op mk wd wn pc ph pa pe pt se ls mo tp ac sz dw st ty ed fr sp go tk en ch ps pg cf ct la gr cr ne nl oe ol fl tl tn N)) (he : e < 16) (hs : s < 10) (h : post (nI (rd_cc st ed s e 32))) : wpX_countCars post (nI tn, rn_A ln, rn_A fm, rn_A tt, rn_A le, rn_A li, rn_A rk, rn_A we, rn_A op, rn_A ca, rn_A mk, rn_B wd, rn_B wn, rn_A pc, rn_A ph, rn_A pa, rn_A pe, rn_A pt, rn_A tp, rn_A ac, rn_A sz, rn_A dw, rn_A st, rn_A ty, rn_A ed, rn_B ps, rn_A fr, rn_A sp, rn_A go, rn_A nz, rn_B pg, rn_B cf, rn_B ct, rn_A tk, rn_A en, rn_B ch, rn_A nw, rn_A tl) x y := by
  subst hx hy
  refine loop_0 (fun n i (b : Nat) => wX_countCars_5 post (nI e) (nI s) (nI tn) (rn_A ln) (rn_A fm) (rn_A tt) (rn_A le) (rn_A li) (rn_A rk) (rn_A we) (rn_A op) (rn_A ca) (rn_A mk) (rn_B wd) (rn_B wn) (rn_A pc) (rn_A ph) (rn_A pa) (rn_A pe) (rn_A pt) (rn_A tp) (rn_A ac) (rn_A sz) (rn_A dw) (rn_A st) (rn_A ty) (rn_A ed) (rn_B ps) (rn_A fr) (rn_A sp) (rn_A go) (rn_A nz) (rn_B pg) (rn_B cf) (rn_B ct) (rn_A tk) (rn_A en) (rn_B ch) (rn_A nw) (rn_A tl) n (nI b) (nI i)) (fun i b => b = rd_cc st ed s e i) 32 0 rfl ?_ ?_
  · intro n b e; subst e
    exact br_t (by decide) h
  · intro n i b hi e0 ih; subst e0
    have A := rI_c I i
    refine pk_le 32 i (fun z => by omega) (fun _ => ⟨pk_in i 32 hi, ?_⟩)
    refine ek_f (rn_e (rn_rA (by omega)) (b := s) rfl (by omega) (by omega)) (fun e1 => ⟨pk_in i 32 hi, ?_⟩) (fun e1 => nm_r (nI_1 i) (ih _ (rd_ccQ (fun w => e1 w.1)).symm))
    exact ek_f (rn_e (rn_rA (by omega)) (b := e) rfl (by omega) (by omega)) (fun e2 => nm_r (nI_1 _) (nm_r (nI_1 i) (ih _ (rd_ccP ⟨e1, e2⟩).symm))) (fun e2 => nm_r (nI_1 i) (ih _ (rd_ccQ (fun w => e2 w.2)).symm))
/-- what road answers -/
noncomputable def rq_rd (le li we op ca tt pc ph pe st ed : Nat → Nat) (e : Nat) : Nat → Int32
  | 0 => nI (rd_cc st ed 2 e 32)
  | 1 => nI (rd_cc st ed 1 e 32)
  | 2 => nI (rq_co le li we e)
  | 3 => rb_ (rq_gn tt pc ph pe e)
  | 4 => nI (ca e)
  | _ => rb_ (op e ≠ 0)
theorem rb_2 (post : Int32 → Prop) {P : Prop} (h : post (rb_ P)) : (rb_ P = 0 → post 0) ∧ (¬ rb_ P = 0 → post 1) := rb_b (fun w => rb_p0 h w) (fun w => rb_p1 h w)
theorem ry_rd (post : Int32 → Prop) {e : Nat} {x : Int32} (I : (rq_L ln fm tt le li rk we op mk wd wn pc ph pa pe pt se ls mo tp ac sz dw st ty ed fr sp go tk en ch ps pg cf ct la gr cr ne nl oe ol fl tl tn N)) (he : e < 16) (hle : 0 < ln e) (hb : x < 0 ∨ 5 < x → post (-1)) (hg : ∀ w, w ≤ 5 → x = nI w → post (rq_rd le li we op ca tt pc ph pe st ed e w)) : wpY_road post (nI kn, nI tn, th, rn_T ln, rn_A op, rn_A fm, rn_A tt, rn_A le, rn_A ln, rn_A li, rn_A rk, rn_A we, rn_A ca, rn_A mk, rn_A fa, rn_A tp, rn_A ac, rn_A sz, rn_A dw, rn_A st, rn_A ty, rn_A ed, rn_A la, rn_A fr, rn_A sp, rn_A go, rn_A nz, rn_A tk, rn_C ch, rn_A en, rn_A nw, rn_A gr, rn_A cr, rn_A ne, rn_A nl, rn_A oe, rn_A ol, rn_A fl, rn_A pc, rn_A ph, rn_A pa, rn_A se, rn_A ls, rn_A mo, rn_A tl, gp, fs) (nI e) x := by
  unfold wpY_road
  refine ry_ie _ _ (rb_b (fun w => absurd ⟨e, he, rfl, hle⟩ w) (fun _ => ?_))
  have B := rI_e I e
  refine loop_0 (fun n i (s : Nat × Nat) => wY_road_18 post (nI e) x (nI kn) (nI tn) th (rn_T ln) (rn_A op) (rn_A fm) (rn_A tt) (rn_A le) (rn_A ln) (rn_A li) (rn_A rk) (rn_A we) (rn_A ca) (rn_A mk) (rn_A fa) (rn_A tp) (rn_A ac) (rn_A sz) (rn_A dw) (rn_A st) (rn_A ty) (rn_A ed) (rn_A la) (rn_A fr) (rn_A sp) (rn_A go) (rn_A nz) (rn_A tk) (rn_C ch) (rn_A en) (rn_A nw) (rn_A gr) (rn_A cr) (rn_A ne) (rn_A nl) (rn_A oe) (rn_A ol) (rn_A fl) (rn_A pc) (rn_A ph) (rn_A pa) (rn_A se) (rn_A ls) (rn_A mo) (rn_A tl) gp fs n (nI s.1) (nI s.2) (nI i)) (fun i s => s = (rd_cc st ed 2 e i, rd_cc st ed 1 e i)) 32 (0, 0) rfl ?_ ?_
  · intro n s e0; subst e0
    refine br_t (by decide) (br_c (fun w => hb (Or.inl w)) (fun k0 => br_c (fun w => hb (Or.inr w)) (fun k1 => ?_)))
    obtain ⟨w, rfl, _, hw⟩ := rn_rg (a := 0) (b := 5) (by omega) (by omega) k0 k1
    have h := hg w hw rfl
    have ie : vp_in (nI e) 16 := pk_in e 16 he
    rcases (by omega : w = 0 ∨ w = 1 ∨ w = 2 ∨ w = 3 ∨ w = 4 ∨ w = 5) with z | z | z | z | z | z <;> subst z
    · exact br_t rfl h
    · exact br_f (by decide) (br_t rfl h)
    · exact br_f (by decide) (br_f (by decide) (br_t rfl (ry_co _ rfl I.1 he hle h)))
    · exact br_f (by decide) (br_f (by decide) (br_f (by decide) (br_t rfl (ry_gn _ rfl I.1 I.2.2.1 he (rb_2 post h)))))
    · refine br_f (by decide) (br_f (by decide) (br_f (by decide) (br_f (by decide) (br_t rfl ⟨ie, ?_⟩))))
      rw [rn_rA (by omega)]; exact h
    · refine br_f (by decide) (br_f (by decide) (br_f (by decide) (br_f (by decide) (br_f (by decide) (br_t rfl ⟨ie, ?_⟩)))))
      exact ek_f (rn_e (rn_rA (by omega)) (b := 0) rfl (by omega) (by omega)) (fun k => rb_p0 h (fun w => w k)) (fun k => rb_p1 h k)
  · intro n i s hi e0 ih; subst e0
    have A := rI_c I i
    have s50 : ∀ a, a = rd_cc st ed 2 e (i + 1) → wY_road_50 post (wY_road_18 post (nI e) x (nI kn) (nI tn) th (rn_T ln) (rn_A op) (rn_A fm) (rn_A tt) (rn_A le) (rn_A ln) (rn_A li) (rn_A rk) (rn_A we) (rn_A ca) (rn_A mk) (rn_A fa) (rn_A tp) (rn_A ac) (rn_A sz) (rn_A dw) (rn_A st) (rn_A ty) (rn_A ed) (rn_A la) (rn_A fr) (rn_A sp) (rn_A go) (rn_A nz) (rn_A tk) (rn_C ch) (rn_A en) (rn_A nw) (rn_A gr) (rn_A cr) (rn_A ne) (rn_A nl) (rn_A oe) (rn_A ol) (rn_A fl) (rn_A pc) (rn_A ph) (rn_A pa) (rn_A se) (rn_A ls) (rn_A mo) (rn_A tl) gp fs n) (nI e) x (nI a) (nI (rd_cc st ed 1 e i)) (nI i) (nI kn) (nI tn) th (rn_T ln) (rn_A op) (rn_A fm) (rn_A tt) (rn_A le) (rn_A ln) (rn_A li) (rn_A rk) (rn_A we) (rn_A ca) (rn_A mk) (rn_A fa) (rn_A tp) (rn_A ac) (rn_A sz) (rn_A dw) (rn_A st) (rn_A ty) (rn_A ed) (rn_A la) (rn_A fr) (rn_A sp) (rn_A go) (rn_A nz) (rn_A tk) (rn_C ch) (rn_A en) (rn_A nw) (rn_A gr) (rn_A cr) (rn_A ne) (rn_A nl) (rn_A oe) (rn_A ol) (rn_A fl) (rn_A pc) (rn_A ph) (rn_A pa) (rn_A se) (rn_A ls) (rn_A mo) (rn_A tl) gp fs := by
      intro a ha
      subst ha
      refine ⟨pk_in i 32 hi, ek_f (rn_e (rn_rA (by omega)) (b := 1) rfl (by omega) (by omega)) (fun e1 => ⟨pk_in i 32 hi, ek_f (rn_e (rn_rA (by omega)) (b := e) rfl (by omega) (by omega)) (fun e2 => nm_r (nI_1 _) (nm_r (nI_1 i) (ih (_, _) ?_))) (fun e2 => nm_r (nI_1 i) (ih (_, _) ?_))⟩) (fun e1 => nm_r (nI_1 i) (ih (_, _) ?_))⟩
      · rw [rd_ccP (s := 1) ⟨e1, e2⟩]; rfl
      · rw [rd_ccQ (s := 1) (fun w => e2 w.2)]; rfl
      · rw [rd_ccQ (s := 1) (fun w => e1 w.1)]; rfl
    refine pk_le 32 i (fun z => by omega) (fun _ => ⟨pk_in i 32 hi, ?_⟩)
    refine ek_f (rn_e (rn_rA (by omega)) (b := 2) rfl (by omega) (by omega)) (fun e1 => ⟨pk_in i 32 hi, ?_⟩) (fun e1 => s50 _ (rd_ccQ (fun w => e1 w.1)).symm)
    exact ek_f (rn_e (rn_rA (by omega)) (b := e) rfl (by omega) (by omega)) (fun e2 => nm_r (nI_1 _) (s50 _ (rd_ccP ⟨e1, e2⟩).symm)) (fun e2 => s50 _ (rd_ccQ (fun w => e2 w.2)).symm)
theorem rx_rd (post : Int32 → Prop) {e : Nat} {x : Int32} (I : (rq_L ln fm tt le li rk we op mk wd wn pc ph pa pe pt se ls mo tp ac sz dw st ty ed fr sp go tk en ch ps pg cf ct la gr cr ne nl oe ol fl tl tn N)) (he : e < 16) (hle : 0 < ln e) (hb : x < 0 ∨ 5 < x → post (-1)) (hg : ∀ w, w ≤ 5 → x = nI w → post (rq_rd le li we op ca tt pc ph pe st ed e w)) : wpX_road post (nI tn, rn_A ln, rn_A fm, rn_A tt, rn_A le, rn_A li, rn_A rk, rn_A we, rn_A op, rn_A ca, rn_A mk, rn_B wd, rn_B wn, rn_A pc, rn_A ph, rn_A pa, rn_A pe, rn_A pt, rn_A tp, rn_A ac, rn_A sz, rn_A dw, rn_A st, rn_A ty, rn_A ed, rn_B ps, rn_A fr, rn_A sp, rn_A go, rn_A nz, rn_B pg, rn_B cf, rn_B ct, rn_A tk, rn_A en, rn_B ch, rn_A nw, rn_A tl) (nI e) x := by
  unfold wpX_road
  have B := rI_e I e
  refine rx_ie _ _ (fun e => (rI_e I e).1) (rb_b (fun w => absurd ⟨e, he, rfl, hle⟩ w) (fun _ => br_c (fun w => hb (Or.inl w)) (fun k0 => br_c (fun w => hb (Or.inr w)) (fun k1 => ?_))))
  obtain ⟨w, rfl, _, hw⟩ := rn_rg (a := 0) (b := 5) (by omega) (by omega) k0 k1
  have h := hg w hw rfl
  have ie : vp_in (nI e) 16 := pk_in e 16 he
  rcases (by omega : w = 0 ∨ w = 1 ∨ w = 2 ∨ w = 3 ∨ w = 4 ∨ w = 5) with z | z | z | z | z | z <;> subst z
  · exact br_t rfl (rx_cc _ rfl (s := 2) rfl I he (by omega) h)
  · exact br_f (by decide) (br_t rfl (rx_cc _ rfl (s := 1) rfl I he (by omega) h))
  · exact br_f (by decide) (br_f (by decide) (br_t rfl (rx_co _ rfl I.1 he hle h)))
  · exact br_f (by decide) (br_f (by decide) (br_f (by decide) (br_t rfl (rx_gn _ rfl I.1 I.2.2.1 he (rb_2 post h)))))
  · refine br_f (by decide) (br_f (by decide) (br_f (by decide) (br_f (by decide) (br_t rfl ⟨ie, ?_⟩))))
    rw [rn_rA (by omega)]; exact h
  · refine br_f (by decide) (br_f (by decide) (br_f (by decide) (br_f (by decide) (br_f (by decide) (br_t rfl ⟨ie, ?_⟩)))))
    exact ek_f (rn_e (rn_rA (by omega)) (b := 0) rfl (by omega) (by omega)) (fun k => rb_p0 h (fun w => w k)) (fun k => rb_p1 h k)
end
theorem i_vc_road {k : Nat} {u : SX} {v : SY} (I : i_Rel k u v) (hk : k + 5 ≤ 2560) (v1 : Int32) (v2 : Int32) : wpX_road (fun r => wpY_road (fun r' => r' = r ∧ i_Rel (k + 5) u v) v v1 v2) u v1 v2 := by
  obtain ⟨ln, fm, tt, le, li, rk, we, op, ca, mk, wd, wn, fa, pc, ph, pa, pe, pt, se, ls, mo, tp, ac, sz, dw, st, ty, ed, fr, sp, go, nz, tk, en, ch, nw, ps, pg, cf, ct, la, gr, cr, ne, nl, oe, ol, fl, tl, tn, kn, N, th, gp, fs, rfl, rfl, I, hW, hN, hT⟩ := I
  have R0 : i_Rel (k + 5) (nI tn, rn_A ln, rn_A fm, rn_A tt, rn_A le, rn_A li, rn_A rk, rn_A we, rn_A op, rn_A ca, rn_A mk, rn_B wd, rn_B wn, rn_A pc, rn_A ph, rn_A pa, rn_A pe, rn_A pt, rn_A tp, rn_A ac, rn_A sz, rn_A dw, rn_A st, rn_A ty, rn_A ed, rn_B ps, rn_A fr, rn_A sp, rn_A go, rn_A nz, rn_B pg, rn_B cf, rn_B ct, rn_A tk, rn_A en, rn_B ch, rn_A nw, rn_A tl) (nI kn, nI tn, th, rn_T ln, rn_A op, rn_A fm, rn_A tt, rn_A le, rn_A ln, rn_A li, rn_A rk, rn_A we, rn_A ca, rn_A mk, rn_A fa, rn_A tp, rn_A ac, rn_A sz, rn_A dw, rn_A st, rn_A ty, rn_A ed, rn_A la, rn_A fr, rn_A sp, rn_A go, rn_A nz, rn_A tk, rn_C ch, rn_A en, rn_A nw, rn_A gr, rn_A cr, rn_A ne, rn_A nl, rn_A oe, rn_A ol, rn_A fl, rn_A pc, rn_A ph, rn_A pa, rn_A se, rn_A ls, rn_A mo, rn_A tl, gp, fs) := rl_rel I hW (by omega) (by omega)
  rcases Classical.em (rq_th ln v1) with ⟨e, he, rfl, hle⟩ | hn
  · refine rx_rd _ I.1 he hle (fun w => ry_rd _ I.1 he hle (fun _ => ⟨rfl, R0⟩) (fun x hx q => ?_)) (fun x hx q => ry_rd _ I.1 he hle (fun w => ?_) (fun x' hx' q' => ?_))
    · subst q
      rcases w with w | w
      · exact absurd w (nI_pos (by omega))
      · exact absurd w (nI_nlt (a := 5) hx (by decide))
    · subst q
      rcases w with w | w
      · exact absurd w (nI_pos (by omega))
      · exact absurd w (nI_nlt (a := 5) hx (by decide))
    · have := (nI_eq (by omega) (by omega)).mp (q.symm.trans q')
      subst this
      exact ⟨rfl, R0⟩
  · unfold wpX_road
    refine rx_ie _ _ (fun e => (rI_e I.1 e).1) (rb_b (fun _ => ?_) (fun w => absurd w hn))
    unfold wpY_road
    exact ry_ie _ _ (rb_b (fun _ => ⟨rfl, R0⟩) (fun w => absurd w hn))
end
section
/-! of, junction -/
section
variable {ln fm tt le li rk we op ca mk wd wn fa pc ph pa pe pt se ls mo tp ac sz dw st ty ed fr sp go nz tk en ch nw ps pg cf ct la gr cr ne nl oe ol fl tl : Nat → Nat} {tn kn N : Nat} {th : Int32} {gp fs : Nat → Int32}
theorem rI_of2 (I : (rq_L ln fm tt le li rk we op mk wd wn pc ph pa pe pt se ls mo tp ac sz dw st ty ed fr sp go tk en ch ps pg cf ct la gr cr ne nl oe ol fl tl tn N)) {c : Nat} (hc : c < 32) (h2 : st c = 2) : rn_B ps (nI c).toNatClampNeg - rn_B ps (nI c).toNatClampNeg / 2 * 2 = nI (la c) := by
  obtain ⟨q1, q2, q3, q4, q5, q6⟩ := rq_psE I.2.1 hc h2
  rw [rn_rB (by omega), rn_cs q2, show nI (ps c - 1) - nI (ps c - 1) / 2 * 2 = nI ((ps c - 1) % 2) from pk_rem (d := 2) (by omega) (by omega) (by omega), q5]
/-- X's answer for a car that is there, and Y's -/
theorem rl_of {c w : Nat} (I : (rq_L ln fm tt le li rk we op mk wd wn pc ph pa pe pt se ls mo tp ac sz dw st ty ed fr sp go tk en ch ps pg cf ct la gr cr ne nl oe ol fl tl tn N)) (hW : (rq_WY ln fm tt le li we op mk fa kn)) (hc : c < 32) (h0 : st c ≠ 0) (hw : w ≤ 7) (hw1 : 1 ≤ w) (h2 : st c = 2 ∨ w < 2 ∨ 5 < w) : ∃ r : Int32, (∀ PX : Int32 → Prop, PX r → wX_of_65 PX (nI c) (nI w) (nI tn) (rn_A ln) (rn_A fm) (rn_A tt) (rn_A le) (rn_A li) (rn_A rk) (rn_A we) (rn_A op) (rn_A ca) (rn_A mk) (rn_B wd) (rn_B wn) (rn_A pc) (rn_A ph) (rn_A pa) (rn_A pe) (rn_A pt) (rn_A tp) (rn_A ac) (rn_A sz) (rn_A dw) (rn_A st) (rn_A ty) (rn_A ed) (rn_B ps) (rn_A fr) (rn_A sp) (rn_A go) (rn_A nz) (rn_B pg) (rn_B cf) (rn_B ct) (rn_A tk) (rn_A en) (rn_B ch) (rn_A nw) (rn_A tl)) ∧ (∀ PYy : Int32 → SY → Prop, (∀ kn fa, (rq_WY ln fm tt le li we op mk fa kn) → PYy r (nI kn, nI tn, th, rn_T ln, rn_A op, rn_A fm, rn_A tt, rn_A le, rn_A ln, rn_A li, rn_A rk, rn_A we, rn_A ca, rn_A mk, rn_A fa, rn_A tp, rn_A ac, rn_A sz, rn_A dw, rn_A st, rn_A ty, rn_A ed, rn_A la, rn_A fr, rn_A sp, rn_A go, rn_A nz, rn_A tk, rn_C ch, rn_A en, rn_A nw, rn_A gr, rn_A cr, rn_A ne, rn_A nl, rn_A oe, rn_A ol, rn_A fl, rn_A pc, rn_A ph, rn_A pa, rn_A se, rn_A ls, rn_A mo, rn_A tl, gp, fs)) → wY_of_63 PYy (nI c) (nI w) (nI kn) (nI tn) th (rn_T ln) (rn_A op) (rn_A fm) (rn_A tt) (rn_A le) (rn_A ln) (rn_A li) (rn_A rk) (rn_A we) (rn_A ca) (rn_A mk) (rn_A fa) (rn_A tp) (rn_A ac) (rn_A sz) (rn_A dw) (rn_A st) (rn_A ty) (rn_A ed) (rn_A la) (rn_A fr) (rn_A sp) (rn_A go) (rn_A nz) (rn_A tk) (rn_C ch) (rn_A en) (rn_A nw) (rn_A gr) (rn_A cr) (rn_A ne) (rn_A nl) (rn_A oe) (rn_A ol) (rn_A fl) (rn_A pc) (rn_A ph) (rn_A pa) (rn_A se) (rn_A ls) (rn_A mo) (rn_A tl) gp fs) := by
  have ic : vp_in (nI c) 32 := pk_in c 32 hc
  have A := rI_c I c
  have P := rI_p I hc
  have G0 := rI_gd I c hc
  have n1 : ¬ nI w < 1 := nI_nlt (b := 1) hw1 (by omega)
  have n6 : w ≤ 6 → ¬ (6 : Int32) < nI w := fun h => nI_nlt (a := 6) h (by decide)
  rcases (by omega : w = 1 ∨ w = 2 ∨ w = 3 ∨ w = 4 ∨ w = 5 ∨ w = 6 ∨ w = 7) with z | z | z | z | z | z | z <;> subst z
  · refine ⟨nI (ed c), fun _ h => br_f n1 (br_f (n6 (by omega)) (br_t rfl ⟨ic, ?_⟩)), fun _ h => br_f n1 (br_f (n6 (by omega)) (br_t rfl ⟨ic, ?_⟩))⟩
    · rw [rn_rA (by omega)]; exact h
    · rw [rn_rA (by omega)]; exact h kn fa hW
  · have s2 : st c = 2 := by omega
    refine ⟨nI (la c), fun _ h => br_f n1 (br_f (n6 (by omega)) (br_f (by decide) (br_t rfl ⟨ic, by decide, ?_⟩))), fun _ h => br_f n1 (br_f (n6 (by omega)) (br_f (by decide) (br_t rfl ⟨ic, ?_⟩)))⟩
    · rw [rI_of2 I hc s2]; exact h
    · rw [rn_rA (by omega)]; exact h kn fa hW
  · refine ⟨nI (fr c), fun _ h => br_f n1 (br_f (n6 (by omega)) (br_f (by decide) (br_f (by decide) (br_t rfl ⟨ic, ?_⟩)))), fun _ h => br_f n1 (br_f (n6 (by omega)) (br_f (by decide) (br_f (by decide) (br_t rfl ⟨ic, ?_⟩))))⟩
    · rw [rn_rA (by omega)]; exact h
    · rw [rn_rA (by omega)]; exact h kn fa hW
  · refine ⟨nI (sp c), fun _ h => br_f n1 (br_f (n6 (by omega)) (br_f (by decide) (br_f (by decide) (br_f (by decide) (br_t rfl ⟨ic, ?_⟩))))), fun _ h => br_f n1 (br_f (n6 (by omega)) (br_f (by decide) (br_f (by decide) (br_f (by decide) (br_t rfl ⟨ic, ?_⟩)))))⟩
    · rw [rn_rA (by omega)]; exact h
    · rw [rn_rA (by omega)]; exact h kn fa hW
  · rcases Nat.eq_zero_or_pos (pg c) with g | g
    · refine ⟨-2, fun _ h => br_f n1 (br_f (n6 (by omega)) (br_f (by decide) (br_f (by decide) (br_f (by decide) (br_f (by decide) (br_t rfl ⟨ic, ?_⟩)))))), fun _ h => br_f n1 (br_f (n6 (by omega)) (br_f (by decide) (br_f (by decide) (br_f (by decide) (br_f (by decide) (br_t rfl ⟨ic, ?_⟩))))))⟩
      · exact ek_f (rn_2 (rn_rB (by omega)) (b := 0) rfl (by omega) (by omega)) (fun _ => h) (fun z => absurd g z)
      · exact ek_f (rn_e (rn_rA (by omega)) (b := 0) rfl (by omega) (by omega)) (fun _ => h kn fa hW) (fun z => by omega)
    · refine ⟨nI (ne c), fun _ h => br_f n1 (br_f (n6 (by omega)) (br_f (by decide) (br_f (by decide) (br_f (by decide) (br_f (by decide) (br_t rfl ⟨ic, ?_⟩)))))), fun _ h => br_f n1 (br_f (n6 (by omega)) (br_f (by decide) (br_f (by decide) (br_f (by decide) (br_f (by decide) (br_t rfl ⟨ic, ?_⟩))))))⟩
      · refine ek_f (rn_2 (rn_rB (by omega)) (b := 0) rfl (by omega) (by omega)) (fun z => by omega) (fun z => ⟨ic, by decide, ?_⟩)
        rw [rn_rB (by omega), rn_cs g, show nI (pg c - 1) / 2 = nI ((pg c - 1) / 2) from pk_div (d := 2) (by omega) (by omega) (by omega), show (pg c - 1) / 2 = ne c by omega]
        exact h
      · refine ek_f (rn_e (rn_rA (by omega)) (b := 0) rfl (by omega) (by omega)) (fun z => by omega) (fun z => ⟨ic, ?_⟩)
        rw [rn_rA (by omega)]; exact h kn fa hW
  · refine ⟨nI (go c), fun _ h => br_f n1 (br_f (n6 (by omega)) (br_f (by decide) (br_f (by decide) (br_f (by decide) (br_f (by decide) (br_f (by decide) (br_t rfl ⟨ic, ?_⟩))))))), fun _ h => br_f n1 (br_f (n6 (by omega)) (br_f (by decide) (br_f (by decide) (br_f (by decide) (br_f (by decide) (br_f (by decide) (br_t rfl ⟨ic, ?_⟩)))))))⟩
    · rw [rn_rA (by omega)]; exact h
    · rw [rn_rA (by omega)]; exact h kn fa hW
  · exact ⟨rn_c ((rq_nx wn ed go) c), fun _ h => br_f n1 (br_t (by decide) (rx_nx _ rfl hc (rI_ed I) (fun c => (rI_c I c).2.2.2.1) h)), fun _ h => br_f n1 (br_t (by decide) (ry_nxo _ rfl I hW hc h))⟩
/-! the holders -/
noncomputable def rq_jc (fm tt ty sz ed fr pg cf : Nat → Nat) (j : Nat) : Nat → Nat
  | 0 => 0
  | i + 1 => @ite Nat ((rq_hd fm tt ed fr pg cf (fun x => sz (ty x))) j i) (Classical.propDecidable _) (rq_jc fm tt ty sz ed fr pg cf j i + 1) (rq_jc fm tt ty sz ed fr pg cf j i)
noncomputable def rq_jf (fm tt ty sz ed fr ps pg cf : Nat → Nat) (j : Nat) : Nat → Nat
  | 0 => 0
  | i + 1 => @ite Nat ((rq_hd fm tt ed fr pg cf (fun x => sz (ty x))) j i) (Classical.propDecidable _) ((rq_hf tt ed ps pg cf) j i) (rq_jf fm tt ty sz ed fr ps pg cf j i)
theorem rq_jP {j i : Nat} (h : (rq_hd fm tt ed fr pg cf (fun x => sz (ty x))) j i) : rq_jc fm tt ty sz ed fr pg cf j (i + 1) = rq_jc fm tt ty sz ed fr pg cf j i + 1 ∧ rq_jf fm tt ty sz ed fr ps pg cf j (i + 1) = (rq_hf tt ed ps pg cf) j i := by
  simp only [rq_jc, rq_jf]; rw [if_pos h, if_pos h]; exact ⟨rfl, rfl⟩
theorem rq_jN {j i : Nat} (h : ¬ (rq_hd fm tt ed fr pg cf (fun x => sz (ty x))) j i) : rq_jc fm tt ty sz ed fr pg cf j (i + 1) = rq_jc fm tt ty sz ed fr pg cf j i ∧ rq_jf fm tt ty sz ed fr ps pg cf j (i + 1) = rq_jf fm tt ty sz ed fr ps pg cf j i := by
  simp only [rq_jc, rq_jf]; rw [if_neg h, if_neg h]; exact ⟨rfl, rfl⟩
def rq_je (f : Nat) : Nat := if f = 0 then 0 else (f - 1) / 2 + 1
def rq_jl (f : Nat) : Nat := if f = 0 then 0 else (f - 1) % 2 + 1
/-- what junction answers of its holders -/
noncomputable def rq_ja (n f : Nat) : Nat → Int32
  | 2 => nI n
  | 3 => rn_c (rq_je f)
  | _ => rn_c (rq_jl f)
theorem rx_jn (post : Int32 → Prop) {j w : Nat} (I : (rq_L ln fm tt le li rk we op mk wd wn pc ph pa pe pt se ls mo tp ac sz dw st ty ed fr sp go tk en ch ps pg cf ct la gr cr ne nl oe ol fl tl tn N)) (hj : j < 8) (hw : 2 ≤ w) (hw4 : w ≤ 4) (h : post (rq_ja (rq_jc fm tt ty sz ed fr pg cf j 32) (rq_jf fm tt ty sz ed fr ps pg cf j 32) w)) : ∃ n, wX_junction_67 post (nI j) (nI w) (nI tn) (rn_A ln) (rn_A fm) (rn_A tt) (rn_A le) (rn_A li) (rn_A rk) (rn_A we) (rn_A op) (rn_A ca) (rn_A mk) (rn_B wd) (rn_B wn) (rn_A pc) (rn_A ph) (rn_A pa) (rn_A pe) (rn_A pt) (rn_A tp) (rn_A ac) (rn_A sz) (rn_A dw) (rn_A st) (rn_A ty) (rn_A ed) (rn_B ps) (rn_A fr) (rn_A sp) (rn_A go) (rn_A nz) (rn_B pg) (rn_B cf) (rn_B ct) (rn_A tk) (rn_A en) (rn_B ch) (rn_A nw) (rn_A tl) n 0 (-2) 0 := by
  refine loop_0 (fun n i (s : Nat × Nat) => wX_junction_67 post (nI j) (nI w) (nI tn) (rn_A ln) (rn_A fm) (rn_A tt) (rn_A le) (rn_A li) (rn_A rk) (rn_A we) (rn_A op) (rn_A ca) (rn_A mk) (rn_B wd) (rn_B wn) (rn_A pc) (rn_A ph) (rn_A pa) (rn_A pe) (rn_A pt) (rn_A tp) (rn_A ac) (rn_A sz) (rn_A dw) (rn_A st) (rn_A ty) (rn_A ed) (rn_B ps) (rn_A fr) (rn_A sp) (rn_A go) (rn_A nz) (rn_B pg) (rn_B cf) (rn_B ct) (rn_A tk) (rn_A en) (rn_B ch) (rn_A nw) (rn_A tl) n (nI s.1) (rn_c s.2) (nI i)) (fun i s => s.1 = rq_jc fm tt ty sz ed fr pg cf j i ∧ s.2 = rq_jf fm tt ty sz ed fr ps pg cf j i ∧ s.2 ≤ 32) 32 (0, 0) ⟨rfl, rfl, by omega⟩ ?_ ?_
  · rintro n ⟨a, f⟩ ⟨e1, e2, e3⟩
    have e1' : a = _ := e1
    have e2' : f = _ := e2
    have e3' : f ≤ 32 := e3
    rw [← e1', ← e2'] at h
    refine br_t (by decide) ?_
    rcases (by omega : w = 2 ∨ w = 3 ∨ w = 4) with z | z | z <;> subst z
    · exact br_t rfl h
    · refine br_f (by decide) (ek_f (rn_c2 (n := f) (by omega)) (fun q => ?_) (fun q => br_t rfl ⟨by decide, ?_⟩))
      · have h' : post (rn_c (rq_je f)) := h
        unfold rq_je at h'
        rw [if_pos q] at h'; exact h'
      · have h' : post (rn_c (rq_je f)) := h
        unfold rq_je at h'
        rw [if_neg q] at h'
        show post (rn_c f / 2)
        rw [rn_cs (by omega), show nI (f - 1) / 2 = nI ((f - 1) / 2) from pk_div (d := 2) (by omega) (by omega) (by omega)]
        exact h'
    · refine br_f (by decide) (ek_f (rn_c2 (n := f) (by omega)) (fun q => ?_) (fun q => br_f (by decide) ⟨by decide, ?_⟩))
      · have h' : post (rn_c (rq_jl f)) := h
        unfold rq_jl at h'
        rw [if_pos q] at h'; exact h'
      · have h' : post (rn_c (rq_jl f)) := h
        unfold rq_jl at h'
        rw [if_neg q] at h'
        show post (rn_c f - rn_c f / 2 * 2)
        rw [rn_cs (by omega), show nI (f - 1) - nI (f - 1) / 2 * 2 = nI ((f - 1) % 2) from pk_rem (d := 2) (by omega) (by omega) (by omega)]
        exact h'
  · rintro n i ⟨a, f⟩ hi ⟨e1, e2, e3⟩ ih
    refine pk_le 32 i (fun z => by omega) (fun _ => rx_hd _ rfl rfl I hi hj (rb_b (fun k => nm_r (nI_1 i) (ih (a, f) ?_)) (fun k => nm_r (nI_1 a) (rx_hf _ rfl rfl I hi hj (nm_r (nI_1 i) (ih (a + 1, (rq_hf tt ed ps pg cf) j i) ?_))))))
    · obtain ⟨c1, c2⟩ := rq_jN (fm := fm) (tt := tt) (ty := ty) (sz := sz) (ed := ed) (fr := fr) (ps := ps) (pg := pg) (cf := cf) k
      rw [c1, c2]; exact ⟨e1, e2, e3⟩
    · obtain ⟨c1, c2⟩ := rq_jP (fm := fm) (tt := tt) (ty := ty) (sz := sz) (ed := ed) (fr := fr) (ps := ps) (pg := pg) (cf := cf) k
      rw [c1, c2]
      exact ⟨by show a + 1 = _; rw [show a = _ from e1], rfl, (rI_hB I hi k).1⟩
theorem ry_jn (post : Int32 → Prop) {j w : Nat} (I : (rq_I ln fm tt le li rk we op mk wd wn pc ph pa pe pt se ls mo tp ac sz dw st ty ed fr sp go tk en ch ps pg cf ct la gr cr ne nl oe ol fl tl tn N)) (hj : j < 8) (hw : 2 ≤ w) (hw4 : w ≤ 4) (h : post (rq_ja (rq_jc fm tt ty sz ed fr pg cf j 32) (rq_jf fm tt ty sz ed fr ps pg cf j 32) w)) : ∃ n, wY_junction_84 post (nI j) (nI w) (nI kn) (nI tn) th (rn_T ln) (rn_A op) (rn_A fm) (rn_A tt) (rn_A le) (rn_A ln) (rn_A li) (rn_A rk) (rn_A we) (rn_A ca) (rn_A mk) (rn_A fa) (rn_A tp) (rn_A ac) (rn_A sz) (rn_A dw) (rn_A st) (rn_A ty) (rn_A ed) (rn_A la) (rn_A fr) (rn_A sp) (rn_A go) (rn_A nz) (rn_A tk) (rn_C ch) (rn_A en) (rn_A nw) (rn_A gr) (rn_A cr) (rn_A ne) (rn_A nl) (rn_A oe) (rn_A ol) (rn_A fl) (rn_A pc) (rn_A ph) (rn_A pa) (rn_A se) (rn_A ls) (rn_A mo) (rn_A tl) gp fs n 0 (-2) (-2) 0 := by
  refine loop_0 (fun n i (s : Nat × Nat) => wY_junction_84 post (nI j) (nI w) (nI kn) (nI tn) th (rn_T ln) (rn_A op) (rn_A fm) (rn_A tt) (rn_A le) (rn_A ln) (rn_A li) (rn_A rk) (rn_A we) (rn_A ca) (rn_A mk) (rn_A fa) (rn_A tp) (rn_A ac) (rn_A sz) (rn_A dw) (rn_A st) (rn_A ty) (rn_A ed) (rn_A la) (rn_A fr) (rn_A sp) (rn_A go) (rn_A nz) (rn_A tk) (rn_C ch) (rn_A en) (rn_A nw) (rn_A gr) (rn_A cr) (rn_A ne) (rn_A nl) (rn_A oe) (rn_A ol) (rn_A fl) (rn_A pc) (rn_A ph) (rn_A pa) (rn_A se) (rn_A ls) (rn_A mo) (rn_A tl) gp fs n (nI s.1) (rn_c (rq_je s.2)) (rn_c (rq_jl s.2)) (nI i)) (fun i s => s.1 = rq_jc fm tt ty sz ed fr pg cf j i ∧ s.2 = rq_jf fm tt ty sz ed fr ps pg cf j i) 32 (0, 0) ⟨rfl, rfl⟩ ?_ ?_
  · rintro n ⟨a, f⟩ ⟨e1, e2⟩
    have e1' : a = _ := e1
    have e2' : f = _ := e2
    rw [← e1', ← e2'] at h
    refine br_t (by decide) ?_
    rcases (by omega : w = 2 ∨ w = 3 ∨ w = 4) with z | z | z <;> subst z
    · exact br_t rfl h
    · exact br_f (by decide) (br_t rfl h)
    · exact br_f (by decide) (br_f (by decide) h)
  · rintro n i ⟨a, f⟩ hi ⟨e1, e2⟩ ih
    have A := rI_c I.1 i
    have ii : vp_in (nI i) 32 := pk_in i 32 hi
    obtain ⟨_, c2, c3, c4, c5⟩ := I.1.2.1.2 i hi
    have nxt : (rq_hd fm tt ed fr pg cf (fun x => sz (ty x))) j i → ∀ x y, (rq_hf tt ed ps pg cf) j i = 2 * x + y + 1 → y ≤ 1 → wY_junction_84 post (nI j) (nI w) (nI kn) (nI tn) th (rn_T ln) (rn_A op) (rn_A fm) (rn_A tt) (rn_A le) (rn_A ln) (rn_A li) (rn_A rk) (rn_A we) (rn_A ca) (rn_A mk) (rn_A fa) (rn_A tp) (rn_A ac) (rn_A sz) (rn_A dw) (rn_A st) (rn_A ty) (rn_A ed) (rn_A la) (rn_A fr) (rn_A sp) (rn_A go) (rn_A nz) (rn_A tk) (rn_C ch) (rn_A en) (rn_A nw) (rn_A gr) (rn_A cr) (rn_A ne) (rn_A nl) (rn_A oe) (rn_A ol) (rn_A fl) (rn_A pc) (rn_A ph) (rn_A pa) (rn_A se) (rn_A ls) (rn_A mo) (rn_A tl) gp fs n (nI (a + 1)) (nI x) (nI y) (nI (i + 1)) := by
      intro k x y hxy hy
      obtain ⟨d1, d2⟩ := rq_jP (fm := fm) (tt := tt) (ty := ty) (sz := sz) (ed := ed) (fr := fr) (ps := ps) (pg := pg) (cf := cf) k
      have := ih (a + 1, (rq_hf tt ed ps pg cf) j i) ⟨by rw [d1]; show a + 1 = _; rw [show a = _ from e1], d2.symm⟩
      have g1 : rq_je ((rq_hf tt ed ps pg cf) j i) = x + 1 := by unfold rq_je; rw [if_neg (by omega)]; omega
      have g2 : rq_jl ((rq_hf tt ed ps pg cf) j i) = y + 1 := by unfold rq_jl; rw [if_neg (by omega)]; omega
      have t : wY_junction_84 post (nI j) (nI w) (nI kn) (nI tn) th (rn_T ln) (rn_A op) (rn_A fm) (rn_A tt) (rn_A le) (rn_A ln) (rn_A li) (rn_A rk) (rn_A we) (rn_A ca) (rn_A mk) (rn_A fa) (rn_A tp) (rn_A ac) (rn_A sz) (rn_A dw) (rn_A st) (rn_A ty) (rn_A ed) (rn_A la) (rn_A fr) (rn_A sp) (rn_A go) (rn_A nz) (rn_A tk) (rn_C ch) (rn_A en) (rn_A nw) (rn_A gr) (rn_A cr) (rn_A ne) (rn_A nl) (rn_A oe) (rn_A ol) (rn_A fl) (rn_A pc) (rn_A ph) (rn_A pa) (rn_A se) (rn_A ls) (rn_A mo) (rn_A tl) gp fs n (nI (a + 1)) (rn_c (rq_je ((rq_hf tt ed ps pg cf) j i))) (rn_c (rq_jl ((rq_hf tt ed ps pg cf) j i))) (nI (i + 1)) := this
      rw [g1, g2] at t
      exact t
    refine pk_le 32 i (fun z => by omega) (fun _ => ry_hd _ rfl rfl I hi hj (fun k1 => ?_) (fun k1 k2 => ?_) (fun k1 => ?_))
    · have hv : (rq_hd fm tt ed fr pg cf (fun x => sz (ty x))) j i := Or.inr k1
      have gg : 0 < pg i := by have := k1.1; omega
      obtain ⟨g1, _⟩ := rq_pgS I.1.2.1 hi gg
      have P2 := (c2 g1).1
      have f1 : (rq_hf tt ed ps pg cf) j i = ps i := by unfold rq_hf; rw [if_pos k1]
      refine br_f (by decide) (nm_r (nI_1 a) (br_t rfl ⟨ii, br_t rfl ⟨ii, nm_r (rn_rA (by omega)) (nm_r (nI_1 i) ?_)⟩⟩))
      rw [rn_rA (by omega)]
      exact nxt hv (ed i) (la i) (by rw [f1]; exact P2) (by omega)
    · have hv : (rq_hd fm tt ed fr pg cf (fun x => sz (ty x))) j i := Or.inl k2
      have s2 : st i = 2 := by
        rcases Nat.decEq (st i) 2 with q | q
        · exact absurd (c3 q).2.2 k2.1
        · exact q
      have C5 := c5 s2
      have k3 := k2.1
      have f1 : (rq_hf tt ed ps pg cf) j i = cf i := by unfold rq_hf; rw [if_neg k1]
      refine br_f (by decide) (nm_r (nI_1 a) (br_f (by decide) ⟨ii, br_f (by decide) ⟨ii, nm_r (rn_rA (by omega)) (nm_r (nI_1 i) ?_)⟩⟩))
      rw [rn_rA (by omega)]
      exact nxt hv (oe i) (ol i) (by rw [f1]; omega) (by omega)
    · obtain ⟨d1, d2⟩ := rq_jN (fm := fm) (tt := tt) (ty := ty) (sz := sz) (ed := ed) (fr := fr) (ps := ps) (pg := pg) (cf := cf) k1
      exact br_t rfl (nm_r (nI_1 i) (ih (a, f) ⟨by rw [d1]; exact e1, by rw [d2]; exact e2⟩))
end
end
section
/-! of and junction, owed -/
theorem i_vc_of {k : Nat} {u : SX} {v : SY} (I : i_Rel k u v) (hk : k + 5 ≤ 2560) (v1 : Int32) (v2 : Int32) : wpX_of (fun r => wpY_of (fun r' v' => r' = r ∧ i_Rel (k + 5) u v') v v1 v2) u v1 v2 := by
  obtain ⟨ln, fm, tt, le, li, rk, we, op, ca, mk, wd, wn, fa, pc, ph, pa, pe, pt, se, ls, mo, tp, ac, sz, dw, st, ty, ed, fr, sp, go, nz, tk, en, ch, nw, ps, pg, cf, ct, la, gr, cr, ne, nl, oe, ol, fl, tl, tn, kn, N, th, gp, fs, rfl, rfl, I, hW, hN, hT⟩ := I
  have R0 : ∀ kn fa, (rq_WY ln fm tt le li we op mk fa kn) → i_Rel (k + 5) (nI tn, rn_A ln, rn_A fm, rn_A tt, rn_A le, rn_A li, rn_A rk, rn_A we, rn_A op, rn_A ca, rn_A mk, rn_B wd, rn_B wn, rn_A pc, rn_A ph, rn_A pa, rn_A pe, rn_A pt, rn_A tp, rn_A ac, rn_A sz, rn_A dw, rn_A st, rn_A ty, rn_A ed, rn_B ps, rn_A fr, rn_A sp, rn_A go, rn_A nz, rn_B pg, rn_B cf, rn_B ct, rn_A tk, rn_A en, rn_B ch, rn_A nw, rn_A tl) (nI kn, nI tn, th, rn_T ln, rn_A op, rn_A fm, rn_A tt, rn_A le, rn_A ln, rn_A li, rn_A rk, rn_A we, rn_A ca, rn_A mk, rn_A fa, rn_A tp, rn_A ac, rn_A sz, rn_A dw, rn_A st, rn_A ty, rn_A ed, rn_A la, rn_A fr, rn_A sp, rn_A go, rn_A nz, rn_A tk, rn_C ch, rn_A en, rn_A nw, rn_A gr, rn_A cr, rn_A ne, rn_A nl, rn_A oe, rn_A ol, rn_A fl, rn_A pc, rn_A ph, rn_A pa, rn_A se, rn_A ls, rn_A mo, rn_A tl, gp, fs) := fun kn fa hW => rl_rel I hW (by omega) (by omega)
  rcases Classical.em (∃ c w, c < 32 ∧ v1 = nI c ∧ w ≤ 7 ∧ v2 = nI w) with ⟨c, w, hc, rfl, hw, rfl⟩ | hn
  · have ic : vp_in (nI c) 32 := pk_in c 32 hc
    have A := rI_c I.1 c
    have sr : rn_A st (nI c).toNatClampNeg = nI (st c) := rn_rA (by omega)
    have ypre : ∀ post : Int32 → SY → Prop, (w = 0 → post (nI (st c)) (nI kn, nI tn, th, rn_T ln, rn_A op, rn_A fm, rn_A tt, rn_A le, rn_A ln, rn_A li, rn_A rk, rn_A we, rn_A ca, rn_A mk, rn_A fa, rn_A tp, rn_A ac, rn_A sz, rn_A dw, rn_A st, rn_A ty, rn_A ed, rn_A la, rn_A fr, rn_A sp, rn_A go, rn_A nz, rn_A tk, rn_C ch, rn_A en, rn_A nw, rn_A gr, rn_A cr, rn_A ne, rn_A nl, rn_A oe, rn_A ol, rn_A fl, rn_A pc, rn_A ph, rn_A pa, rn_A se, rn_A ls, rn_A mo, rn_A tl, gp, fs)) → (0 < w → st c = 0 → post (-2) (nI kn, nI tn, th, rn_T ln, rn_A op, rn_A fm, rn_A tt, rn_A le, rn_A ln, rn_A li, rn_A rk, rn_A we, rn_A ca, rn_A mk, rn_A fa, rn_A tp, rn_A ac, rn_A sz, rn_A dw, rn_A st, rn_A ty, rn_A ed, rn_A la, rn_A fr, rn_A sp, rn_A go, rn_A nz, rn_A tk, rn_C ch, rn_A en, rn_A nw, rn_A gr, rn_A cr, rn_A ne, rn_A nl, rn_A oe, rn_A ol, rn_A fl, rn_A pc, rn_A ph, rn_A pa, rn_A se, rn_A ls, rn_A mo, rn_A tl, gp, fs)) → (0 < w → st c = 1 → 2 ≤ w → w ≤ 5 → post (-2) (nI kn, nI tn, th, rn_T ln, rn_A op, rn_A fm, rn_A tt, rn_A le, rn_A ln, rn_A li, rn_A rk, rn_A we, rn_A ca, rn_A mk, rn_A fa, rn_A tp, rn_A ac, rn_A sz, rn_A dw, rn_A st, rn_A ty, rn_A ed, rn_A la, rn_A fr, rn_A sp, rn_A go, rn_A nz, rn_A tk, rn_C ch, rn_A en, rn_A nw, rn_A gr, rn_A cr, rn_A ne, rn_A nl, rn_A oe, rn_A ol, rn_A fl, rn_A pc, rn_A ph, rn_A pa, rn_A se, rn_A ls, rn_A mo, rn_A tl, gp, fs)) → (0 < w → st c ≠ 0 → (st c = 2 ∨ w < 2 ∨ 5 < w) → wY_of_63 post (nI c) (nI w) (nI kn) (nI tn) th (rn_T ln) (rn_A op) (rn_A fm) (rn_A tt) (rn_A le) (rn_A ln) (rn_A li) (rn_A rk) (rn_A we) (rn_A ca) (rn_A mk) (rn_A fa) (rn_A tp) (rn_A ac) (rn_A sz) (rn_A dw) (rn_A st) (rn_A ty) (rn_A ed) (rn_A la) (rn_A fr) (rn_A sp) (rn_A go) (rn_A nz) (rn_A tk) (rn_C ch) (rn_A en) (rn_A nw) (rn_A gr) (rn_A cr) (rn_A ne) (rn_A nl) (rn_A oe) (rn_A ol) (rn_A fl) (rn_A pc) (rn_A ph) (rn_A pa) (rn_A se) (rn_A ls) (rn_A mo) (rn_A tl) gp fs) → wpY_of post (nI kn, nI tn, th, rn_T ln, rn_A op, rn_A fm, rn_A tt, rn_A le, rn_A ln, rn_A li, rn_A rk, rn_A we, rn_A ca, rn_A mk, rn_A fa, rn_A tp, rn_A ac, rn_A sz, rn_A dw, rn_A st, rn_A ty, rn_A ed, rn_A la, rn_A fr, rn_A sp, rn_A go, rn_A nz, rn_A tk, rn_C ch, rn_A en, rn_A nw, rn_A gr, rn_A cr, rn_A ne, rn_A nl, rn_A oe, rn_A ol, rn_A fl, rn_A pc, rn_A ph, rn_A pa, rn_A se, rn_A ls, rn_A mo, rn_A tl, gp, fs) (nI c) (nI w) := by
      intro post h1 h2 h3 h4
      unfold wpY_of
      refine ry_isc _ _ (fun z => absurd ⟨c, hc, rfl⟩ z) (fun c' hc' q => br_f (by decide) (ry_in _ _ _ _ (rb_b (fun z => absurd ⟨nI_pos (by omega), nI_nlt (a := 7) hw (by decide)⟩ z) (fun _ => ?_))))
      rw [sr]
      refine pk_eq w 0 (fun z => ⟨ic, h1 z⟩) (fun z => ⟨ic, pk_eq (st c) 0 (fun z2 => h2 (by omega) z2) (fun z2 => pk_le w 1 (fun z3 => h4 (by omega) z2 (by omega)) (fun z3 => pk_le 6 w (fun z4 => h4 (by omega) z2 (by omega)) (fun z4 => ⟨ic, pk_eq (st c) 2 (fun z5 => h4 (by omega) z2 (by omega)) (fun z5 => h3 (by omega) (by omega) (by omega) (by omega))⟩)))⟩)
    refine br_f (nI_pos (by omega)) (br_f (nI_ge (b := 32) hc (by decide)) (br_f (nI_pos (by omega)) (br_t (nI_le (b := 7) hw (by decide)) ?_)))
    rw [sr]
    refine pk_eq w 0 (fun z => ⟨ic, ypre _ (fun _ => ⟨rfl, R0 kn fa hW⟩) (fun q => by omega) (fun q => by omega) (fun q => by omega)⟩) (fun z => ⟨ic, pk_eq (st c) 0 (fun z2 => ypre _ (fun q => by omega) (fun _ _ => ⟨rfl, R0 kn fa hW⟩) (fun _ q => by omega) (fun _ q => absurd z2 q)) (fun z2 => ⟨ic, ?_⟩)⟩)
    have main : (st c = 2 ∨ w < 2 ∨ 5 < w) → wX_of_65 (fun r => wpY_of (fun r' v' => r' = r ∧ i_Rel (k + 5) (nI tn, rn_A ln, rn_A fm, rn_A tt, rn_A le, rn_A li, rn_A rk, rn_A we, rn_A op, rn_A ca, rn_A mk, rn_B wd, rn_B wn, rn_A pc, rn_A ph, rn_A pa, rn_A pe, rn_A pt, rn_A tp, rn_A ac, rn_A sz, rn_A dw, rn_A st, rn_A ty, rn_A ed, rn_B ps, rn_A fr, rn_A sp, rn_A go, rn_A nz, rn_B pg, rn_B cf, rn_B ct, rn_A tk, rn_A en, rn_B ch, rn_A nw, rn_A tl) v') (nI kn, nI tn, th, rn_T ln, rn_A op, rn_A fm, rn_A tt, rn_A le, rn_A ln, rn_A li, rn_A rk, rn_A we, rn_A ca, rn_A mk, rn_A fa, rn_A tp, rn_A ac, rn_A sz, rn_A dw, rn_A st, rn_A ty, rn_A ed, rn_A la, rn_A fr, rn_A sp, rn_A go, rn_A nz, rn_A tk, rn_C ch, rn_A en, rn_A nw, rn_A gr, rn_A cr, rn_A ne, rn_A nl, rn_A oe, rn_A ol, rn_A fl, rn_A pc, rn_A ph, rn_A pa, rn_A se, rn_A ls, rn_A mo, rn_A tl, gp, fs) (nI c) (nI w)) (nI c) (nI w) (nI tn) (rn_A ln) (rn_A fm) (rn_A tt) (rn_A le) (rn_A li) (rn_A rk) (rn_A we) (rn_A op) (rn_A ca) (rn_A mk) (rn_B wd) (rn_B wn) (rn_A pc) (rn_A ph) (rn_A pa) (rn_A pe) (rn_A pt) (rn_A tp) (rn_A ac) (rn_A sz) (rn_A dw) (rn_A st) (rn_A ty) (rn_A ed) (rn_B ps) (rn_A fr) (rn_A sp) (rn_A go) (rn_A nz) (rn_B pg) (rn_B cf) (rn_B ct) (rn_A tk) (rn_A en) (rn_B ch) (rn_A nw) (rn_A tl) := by
      intro hb
      obtain ⟨r, hx, hy⟩ := rl_of I.1 hW hc z2 hw (by omega) hb
      exact hx _ (ypre _ (fun q => by omega) (fun _ q => absurd q z2) (fun _ q1 q2 q3 => by omega) (fun _ _ _ => hy _ (fun kn fa hW' => ⟨rfl, R0 kn fa hW'⟩)))
    refine pk_eq (st c) 1 (fun z3 => pk_lt w 2 (fun z4 => main (by omega)) (fun z4 => pk_lt 5 w (fun z5 => main (by omega)) (fun z5 => ypre _ (fun q => by omega) (fun _ q => absurd q z2) (fun _ _ _ _ => ⟨rfl, R0 kn fa hW⟩) (fun _ _ q => by omega)))) (fun z3 => main (by omega))
  · have yr : wpY_of (fun r' v' => r' = -1 ∧ i_Rel (k + 5) (nI tn, rn_A ln, rn_A fm, rn_A tt, rn_A le, rn_A li, rn_A rk, rn_A we, rn_A op, rn_A ca, rn_A mk, rn_B wd, rn_B wn, rn_A pc, rn_A ph, rn_A pa, rn_A pe, rn_A pt, rn_A tp, rn_A ac, rn_A sz, rn_A dw, rn_A st, rn_A ty, rn_A ed, rn_B ps, rn_A fr, rn_A sp, rn_A go, rn_A nz, rn_B pg, rn_B cf, rn_B ct, rn_A tk, rn_A en, rn_B ch, rn_A nw, rn_A tl) v') (nI kn, nI tn, th, rn_T ln, rn_A op, rn_A fm, rn_A tt, rn_A le, rn_A ln, rn_A li, rn_A rk, rn_A we, rn_A ca, rn_A mk, rn_A fa, rn_A tp, rn_A ac, rn_A sz, rn_A dw, rn_A st, rn_A ty, rn_A ed, rn_A la, rn_A fr, rn_A sp, rn_A go, rn_A nz, rn_A tk, rn_C ch, rn_A en, rn_A nw, rn_A gr, rn_A cr, rn_A ne, rn_A nl, rn_A oe, rn_A ol, rn_A fl, rn_A pc, rn_A ph, rn_A pa, rn_A se, rn_A ls, rn_A mo, rn_A tl, gp, fs) v1 v2 := by
      unfold wpY_of
      refine ry_isc _ _ (fun _ => br_t rfl ⟨rfl, R0 kn fa hW⟩) (fun c hc q => br_f (by decide) (ry_in _ _ _ _ (rb_b (fun _ => ⟨rfl, R0 kn fa hW⟩) (fun w => ?_))))
      obtain ⟨x, q2, _, hx⟩ := rn_rg (a := 0) (b := 7) (by omega) (by omega) w.1 w.2
      exact absurd ⟨c, x, hc, q, hx, q2⟩ hn
    refine br_c (fun _ => yr) (fun k0 => br_c (fun _ => yr) (fun k1 => br_c (fun _ => yr) (fun k2 => br_c (fun k3 => ?_) (fun _ => yr))))
    obtain ⟨c, hc, q⟩ := rn_16 (M := 32) (by omega) k0 k1
    obtain ⟨x, q2, _, hx⟩ := rn_rg (a := 0) (b := 7) (by omega) (by omega) k2 (Int32.not_lt.mpr k3)
    exact absurd ⟨c, x, hc, q, hx, q2⟩ hn
theorem i_vc_junction {k : Nat} {u : SX} {v : SY} (I : i_Rel k u v) (hk : k + 5 ≤ 2560) (v1 : Int32) (v2 : Int32) : wpX_junction (fun r => wpY_junction (fun r' => r' = r ∧ i_Rel (k + 5) u v) v v1 v2) u v1 v2 := by
  obtain ⟨ln, fm, tt, le, li, rk, we, op, ca, mk, wd, wn, fa, pc, ph, pa, pe, pt, se, ls, mo, tp, ac, sz, dw, st, ty, ed, fr, sp, go, nz, tk, en, ch, nw, ps, pg, cf, ct, la, gr, cr, ne, nl, oe, ol, fl, tl, tn, kn, N, th, gp, fs, rfl, rfl, I, hW, hN, hT⟩ := I
  have R0 : i_Rel (k + 5) (nI tn, rn_A ln, rn_A fm, rn_A tt, rn_A le, rn_A li, rn_A rk, rn_A we, rn_A op, rn_A ca, rn_A mk, rn_B wd, rn_B wn, rn_A pc, rn_A ph, rn_A pa, rn_A pe, rn_A pt, rn_A tp, rn_A ac, rn_A sz, rn_A dw, rn_A st, rn_A ty, rn_A ed, rn_B ps, rn_A fr, rn_A sp, rn_A go, rn_A nz, rn_B pg, rn_B cf, rn_B ct, rn_A tk, rn_A en, rn_B ch, rn_A nw, rn_A tl) (nI kn, nI tn, th, rn_T ln, rn_A op, rn_A fm, rn_A tt, rn_A le, rn_A ln, rn_A li, rn_A rk, rn_A we, rn_A ca, rn_A mk, rn_A fa, rn_A tp, rn_A ac, rn_A sz, rn_A dw, rn_A st, rn_A ty, rn_A ed, rn_A la, rn_A fr, rn_A sp, rn_A go, rn_A nz, rn_A tk, rn_C ch, rn_A en, rn_A nw, rn_A gr, rn_A cr, rn_A ne, rn_A nl, rn_A oe, rn_A ol, rn_A fl, rn_A pc, rn_A ph, rn_A pa, rn_A se, rn_A ls, rn_A mo, rn_A tl, gp, fs) := rl_rel I hW (by omega) (by omega)
  rcases Classical.em (∃ j w, j < 8 ∧ v1 = nI j ∧ w ≤ 4 ∧ v2 = nI w) with ⟨j, w, hj, rfl, hw, rfl⟩ | hn
  · have ij : vp_in (nI j) 8 := pk_in j 8 hj
    obtain ⟨p1, p2, p3, p4, p5⟩ := I.1.2.2.1 j hj
    have N2 := I.1.2.2.2.2.2.2.1
    have pr : rn_A pc (nI j).toNatClampNeg = nI (pc j) := rn_rA (by omega)
    have hr : rn_A ph (nI j).toNatClampNeg = nI (ph j) := rn_rA (by omega)
    have ar : rn_A pa (nI j).toNatClampNeg = nI (pa j) := rn_rA (by omega)
    have ypre : ∀ post : Int32 → Prop, (w = 0 → pc j = 0 → post (-2)) → (w = 0 → pc j ≠ 0 → post (nI (ph j))) → (w = 1 → post (nI (pa j))) → (2 ≤ w → ∃ n, wY_junction_84 post (nI j) (nI w) (nI kn) (nI tn) th (rn_T ln) (rn_A op) (rn_A fm) (rn_A tt) (rn_A le) (rn_A ln) (rn_A li) (rn_A rk) (rn_A we) (rn_A ca) (rn_A mk) (rn_A fa) (rn_A tp) (rn_A ac) (rn_A sz) (rn_A dw) (rn_A st) (rn_A ty) (rn_A ed) (rn_A la) (rn_A fr) (rn_A sp) (rn_A go) (rn_A nz) (rn_A tk) (rn_C ch) (rn_A en) (rn_A nw) (rn_A gr) (rn_A cr) (rn_A ne) (rn_A nl) (rn_A oe) (rn_A ol) (rn_A fl) (rn_A pc) (rn_A ph) (rn_A pa) (rn_A se) (rn_A ls) (rn_A mo) (rn_A tl) gp fs n 0 (-2) (-2) 0) → wpY_junction post (nI kn, nI tn, th, rn_T ln, rn_A op, rn_A fm, rn_A tt, rn_A le, rn_A ln, rn_A li, rn_A rk, rn_A we, rn_A ca, rn_A mk, rn_A fa, rn_A tp, rn_A ac, rn_A sz, rn_A dw, rn_A st, rn_A ty, rn_A ed, rn_A la, rn_A fr, rn_A sp, rn_A go, rn_A nz, rn_A tk, rn_C ch, rn_A en, rn_A nw, rn_A gr, rn_A cr, rn_A ne, rn_A nl, rn_A oe, rn_A ol, rn_A fl, rn_A pc, rn_A ph, rn_A pa, rn_A se, rn_A ls, rn_A mo, rn_A tl, gp, fs) (nI j) (nI w) := by
      intro post h1 h2 h3 h4
      unfold wpY_junction
      refine ry_in _ _ _ _ (rb_b (fun z => absurd ⟨nI_pos (by omega), nI_nlt (a := 7) (b := j) (by omega) (by decide)⟩ z) (fun _ => ry_in _ _ _ _ (rb_b (fun z => absurd ⟨nI_pos (by omega), nI_nlt (a := 4) hw (by decide)⟩ z) (fun _ => ?_))))
      rw [pr, hr, ar]
      refine pk_eq w 0 (fun z => ⟨ij, pk_eq (pc j) 0 (fun z2 => h1 z z2) (fun z2 => ⟨ij, h2 z z2⟩)⟩) (fun z => pk_eq w 1 (fun z2 => ⟨ij, pk_eq (pc j) 0 (fun z3 => ?_) (fun z3 => ⟨ij, h3 z2⟩)⟩) (fun z2 => h4 (by omega)))
      have := h3 z2
      rw [(p2 z3).2] at this
      exact this
    refine br_f (nI_pos (by omega)) (br_f (nI_ge (b := 8) hj (by decide)) (br_f (nI_pos (by omega)) (br_t (nI_le (b := 4) hw (by decide)) ?_)))
    rw [pr, hr, ar]
    refine pk_eq w 0 (fun z => ⟨ij, pk_eq (pc j) 0 (fun z2 => ypre _ (fun _ _ => ⟨rfl, R0⟩) (fun _ q => absurd z2 q) (fun q => by omega) (fun q => by omega)) (fun z2 => ⟨ij, ypre _ (fun _ q => absurd q z2) (fun _ _ => ⟨rfl, R0⟩) (fun q => by omega) (fun q => by omega)⟩)⟩) (fun z => pk_eq w 1 (fun z2 => ⟨ij, ypre _ (fun q => by omega) (fun q => by omega) (fun _ => ⟨rfl, R0⟩) (fun q => by omega)⟩) (fun z2 => ?_))
    exact rx_jn _ I.1 hj (by omega) hw (ypre _ (fun q => by omega) (fun q => by omega) (fun q => by omega) (fun _ => ry_jn _ I hj (by omega) hw ⟨rfl, R0⟩))
  · have yr : wpY_junction (fun r' => r' = -1 ∧ i_Rel (k + 5) (nI tn, rn_A ln, rn_A fm, rn_A tt, rn_A le, rn_A li, rn_A rk, rn_A we, rn_A op, rn_A ca, rn_A mk, rn_B wd, rn_B wn, rn_A pc, rn_A ph, rn_A pa, rn_A pe, rn_A pt, rn_A tp, rn_A ac, rn_A sz, rn_A dw, rn_A st, rn_A ty, rn_A ed, rn_B ps, rn_A fr, rn_A sp, rn_A go, rn_A nz, rn_B pg, rn_B cf, rn_B ct, rn_A tk, rn_A en, rn_B ch, rn_A nw, rn_A tl) (nI kn, nI tn, th, rn_T ln, rn_A op, rn_A fm, rn_A tt, rn_A le, rn_A ln, rn_A li, rn_A rk, rn_A we, rn_A ca, rn_A mk, rn_A fa, rn_A tp, rn_A ac, rn_A sz, rn_A dw, rn_A st, rn_A ty, rn_A ed, rn_A la, rn_A fr, rn_A sp, rn_A go, rn_A nz, rn_A tk, rn_C ch, rn_A en, rn_A nw, rn_A gr, rn_A cr, rn_A ne, rn_A nl, rn_A oe, rn_A ol, rn_A fl, rn_A pc, rn_A ph, rn_A pa, rn_A se, rn_A ls, rn_A mo, rn_A tl, gp, fs)) (nI kn, nI tn, th, rn_T ln, rn_A op, rn_A fm, rn_A tt, rn_A le, rn_A ln, rn_A li, rn_A rk, rn_A we, rn_A ca, rn_A mk, rn_A fa, rn_A tp, rn_A ac, rn_A sz, rn_A dw, rn_A st, rn_A ty, rn_A ed, rn_A la, rn_A fr, rn_A sp, rn_A go, rn_A nz, rn_A tk, rn_C ch, rn_A en, rn_A nw, rn_A gr, rn_A cr, rn_A ne, rn_A nl, rn_A oe, rn_A ol, rn_A fl, rn_A pc, rn_A ph, rn_A pa, rn_A se, rn_A ls, rn_A mo, rn_A tl, gp, fs) v1 v2 := by
      unfold wpY_junction
      refine ry_in _ _ _ _ (rb_b (fun _ => ⟨rfl, R0⟩) (fun w1 => ry_in _ _ _ _ (rb_b (fun _ => ⟨rfl, R0⟩) (fun w2 => ?_))))
      obtain ⟨j, q1, _, h1⟩ := rn_rg (a := 0) (b := 7) (by omega) (by omega) w1.1 w1.2
      obtain ⟨x, q2, _, h2⟩ := rn_rg (a := 0) (b := 4) (by omega) (by omega) w2.1 w2.2
      exact absurd ⟨j, x, by omega, q1, h2, q2⟩ hn
    refine br_c (fun _ => yr) (fun k0 => br_c (fun _ => yr) (fun k1 => br_c (fun _ => yr) (fun k2 => br_c (fun k3 => ?_) (fun _ => yr))))
    obtain ⟨j, hj, q⟩ := rn_16 (M := 8) (by omega) k0 k1
    obtain ⟨x, q2, _, hx⟩ := rn_rg (a := 0) (b := 4) (by omega) (by omega) k2 (Int32.not_lt.mpr k3)
    exact absurd ⟨j, x, hj, q, hx, q2⟩ hn
end
section
/-! lane -/
section
variable {ln fm tt le li rk we op ca mk wd wn fa pc ph pa pe pt se ls mo tp ac sz dw st ty ed fr sp go nz tk en ch nw ps pg cf ct la gr cr ne nl oe ol fl tl : Nat → Nat} {tn kn N : Nat} {th : Int32} {gp fs : Nat → Int32}
theorem rx_ln (post : Int32 → Prop) {s k n : Nat} (I : (rq_I ln fm tt le li rk we op mk wd wn pc ph pa pe pt se ls mo tp ac sz dw st ty ed fr sp go tk en ch ps pg cf ct la gr cr ne nl oe ol fl tl tn N)) (hs : s < 32) (hk : k < 32) (hK : rd_Kth ps fr (s + 1) k n) (h : post (rn_c n)) : ∃ m, wX_lane_32 post (nI k) (nI s) (nI tn) (rn_A ln) (rn_A fm) (rn_A tt) (rn_A le) (rn_A li) (rn_A rk) (rn_A we) (rn_A op) (rn_A ca) (rn_A mk) (rn_B wd) (rn_B wn) (rn_A pc) (rn_A ph) (rn_A pa) (rn_A pe) (rn_A pt) (rn_A tp) (rn_A ac) (rn_A sz) (rn_A dw) (rn_A st) (rn_A ty) (rn_A ed) (rn_B ps) (rn_A fr) (rn_A sp) (rn_A go) (rn_A nz) (rn_B pg) (rn_B cf) (rn_B ct) (rn_A tk) (rn_A en) (rn_B ch) (rn_A nw) (rn_A tl) m 0 := by
  refine loop_0 (fun m i (_ : Unit) => wX_lane_32 post (nI k) (nI s) (nI tn) (rn_A ln) (rn_A fm) (rn_A tt) (rn_A le) (rn_A li) (rn_A rk) (rn_A we) (rn_A op) (rn_A ca) (rn_A mk) (rn_B wd) (rn_B wn) (rn_A pc) (rn_A ph) (rn_A pa) (rn_A pe) (rn_A pt) (rn_A tp) (rn_A ac) (rn_A sz) (rn_A dw) (rn_A st) (rn_A ty) (rn_A ed) (rn_B ps) (rn_A fr) (rn_A sp) (rn_A go) (rn_A nz) (rn_B pg) (rn_B cf) (rn_B ct) (rn_A tk) (rn_A en) (rn_B ch) (rn_A nw) (rn_A tl) m (nI i)) (fun i _ => ∀ c, c < i → ¬ (ps c = s + 1 ∧ rd_cb ps fr (s + 1) (fr c) 32 = k)) 32 () (fun c hc => absurd hc (Nat.not_lt_zero c)) ?_ ?_
  · intro m _ e
    rcases hK with ⟨k0, _⟩ | ⟨c, k0, k1, k2, k3⟩
    · subst k0; exact br_t (by decide) h
    · exact absurd ⟨k2, k3⟩ (e c k1)
  · intro m i _ hi e ih
    have P := rI_ps I.1 i hi
    have F := rI_fr I.1 i
    have L := rd_cbL (ps := ps) (fr := fr) (s := s + 1) (p := fr i) 32
    refine pk_le 32 i (fun z => by omega) (fun _ => ⟨pk_in i 32 hi, ?_⟩)
    refine ek_f (rn_2 (rn_rB (by omega)) (b := s + 1) rfl (by omega) (by omega)) (fun e1 => ⟨pk_in i 32 hi, rx_cb _ rfl (rn_rA (by omega)) (by omega) (by omega) (rI_ps I.1) (rI_fr I.1) ?_⟩) (fun e1 => nm_r (nI_1 i) (ih () (lt_s e (fun w => e1 w.1))))
    refine ek_f (rn_e rfl rfl (by omega) (by omega)) (fun e2 => ?_) (fun e2 => nm_r (nI_1 i) (ih () (lt_s e (fun w => e2 w.2))))
    have := rd_KthU I.2.1 (by omega) hK (Or.inr ⟨i, rfl, hi, e1, e2⟩)
    subst this
    exact h
theorem rI_pos1 (I : (rq_I ln fm tt le li rk we op mk wd wn pc ph pa pe pt se ls mo tp ac sz dw st ty ed fr sp go tk en ch ps pg cf ct la gr cr ne nl oe ol fl tl tn N)) {a s : Nat} (ha : a < 32) (hs : 0 < s) (h : ps a = s) : 1 ≤ fr a := ((I.2.2.2.2.2.2 a ha).1 (by omega)).1
theorem ry_l50 (post : Int32 → Prop) {e l k n : Nat} (I : (rq_I ln fm tt le li rk we op mk wd wn pc ph pa pe pt se ls mo tp ac sz dw st ty ed fr sp go tk en ch ps pg cf ct la gr cr ne nl oe ol fl tl tn N)) (he : e < 16) (hl : l ≤ 1) (hk : k < 2147483648) (hK : rd_Kth ps fr (2 * e + l + 1) k n) (h : post (rn_c n)) : ∀ m i p, p ≤ 1000 → rd_cb ps fr (2 * e + l + 1) p 32 = i → i ≤ k → 33 - i < m → wY_lane_50 post (nI e) (nI l) (nI k) (nI kn) (nI tn) th (rn_T ln) (rn_A op) (rn_A fm) (rn_A tt) (rn_A le) (rn_A ln) (rn_A li) (rn_A rk) (rn_A we) (rn_A ca) (rn_A mk) (rn_A fa) (rn_A tp) (rn_A ac) (rn_A sz) (rn_A dw) (rn_A st) (rn_A ty) (rn_A ed) (rn_A la) (rn_A fr) (rn_A sp) (rn_A go) (rn_A nz) (rn_A tk) (rn_C ch) (rn_A en) (rn_A nw) (rn_A gr) (rn_A cr) (rn_A ne) (rn_A nl) (rn_A oe) (rn_A ol) (rn_A fl) (rn_A pc) (rn_A ph) (rn_A pa) (rn_A se) (rn_A ls) (rn_A mo) (rn_A tl) gp fs m (rn_y ((rd_nu ps fr) (2 * e + l + 1) p 32)) (nI i) := by
  intro m
  induction m with
  | zero => intro i p _ _ _ h; omega
  | succ m ih =>
    intro i p hp hi hik hm
    have L := rd_cbL (ps := ps) (fr := fr) (s := 2 * e + l + 1) (p := p) 32
    have L2 := rd_nuL (ps := ps) (fr := fr) (s := 2 * e + l + 1) (p := p) 32
    have s89n : (rd_nu ps fr) (2 * e + l + 1) p 32 = 0 → wY_lane_89 post (rn_y ((rd_nu ps fr) (2 * e + l + 1) p 32)) (nI kn) (nI tn) th (rn_T ln) (rn_A op) (rn_A fm) (rn_A tt) (rn_A le) (rn_A ln) (rn_A li) (rn_A rk) (rn_A we) (rn_A ca) (rn_A mk) (rn_A fa) (rn_A tp) (rn_A ac) (rn_A sz) (rn_A dw) (rn_A st) (rn_A ty) (rn_A ed) (rn_A la) (rn_A fr) (rn_A sp) (rn_A go) (rn_A nz) (rn_A tk) (rn_C ch) (rn_A en) (rn_A nw) (rn_A gr) (rn_A cr) (rn_A ne) (rn_A nl) (rn_A oe) (rn_A ol) (rn_A fl) (rn_A pc) (rn_A ph) (rn_A pa) (rn_A se) (rn_A ls) (rn_A mo) (rn_A tl) gp fs := by
      intro z
      have u := rd_KthU I.2.1 (by omega) hK (rd_KthN (by omega) hi hik z)
      rw [u] at h
      rw [z]
      exact br_f (by decide) h
    rcases Nat.eq_zero_or_pos ((rd_nu ps fr) (2 * e + l + 1) p 32) with z | z
    · exact br_c (fun _ => s89n z) (fun _ => br_t ((rn_yn (by omega)).mpr z) (s89n z))
    · obtain ⟨a, ha⟩ : ∃ a, (rd_nu ps fr) (2 * e + l + 1) p 32 = a + 1 := ⟨(rd_nu ps fr) (2 * e + l + 1) p 32 - 1, by omega⟩
      obtain ⟨a1, a2, a3, a4, a5⟩ := rd_KthS I.2.1 (by omega) hi ha
      have f1 := rI_pos1 I a1 (by omega) a2
      have F := rI_fr I.1 a
      rw [ha]
      refine pk_le k i (fun q => ?_) (fun q => br_f (nI_pos (n := a) (by omega)) ⟨pk_in a 32 a1, nm_r (e' := nI (fr a - 1)) ?_ ?_⟩)
      · have ek : i = k := by omega
        have u := rd_KthU I.2.1 (by omega) hK (Or.inr ⟨a, rfl, a1, a2, by omega⟩)
        rw [u] at h
        exact br_t (nI_pos' (n := a) (by omega)) h
      · have r1 : rn_A fr (rn_y (a + 1)).toNatClampNeg = nI (fr a) := rn_rA (by omega)
        rw [r1, show (1 : Int32) = nI 1 from rfl, pk_sub f1]
      · refine ry_nu _ rfl rfl rfl (by omega) hl (by omega) (rI_on I.1) (rI_fr I.1) (fun j hj w => ?_) (nm_r (nI_1 i) (ih (i + 1) (fr a - 1) (by omega) (a5 f1) (by omega) (by omega)))
        have : ¬ nI j < 0 := nI_pos (by omega)
        rw [w] at this
        exact absurd (by decide) this
/-- there is an answer -/
theorem rl_kth (I : (rq_I ln fm tt le li rk we op mk wd wn pc ph pa pe pt se ls mo tp ac sz dw st ty ed fr sp go tk en ch ps pg cf ct la gr cr ne nl oe ol fl tl tn N)) {s k : Nat} : ∃ n, rd_Kth ps fr s k n := by
  rcases Classical.em (∃ c, c < 32 ∧ ps c = s ∧ rd_cb ps fr s (fr c) 32 = k) with ⟨c, c1, c2, c3⟩ | h
  · exact ⟨c + 1, Or.inr ⟨c, rfl, c1, c2, c3⟩⟩
  · exact ⟨0, Or.inl ⟨rfl, fun c c1 c2 c3 => h ⟨c, c1, c2, c3⟩⟩⟩
theorem rl_kbig (I : (rq_I ln fm tt le li rk we op mk wd wn pc ph pa pe pt se ls mo tp ac sz dw st ty ed fr sp go tk en ch ps pg cf ct la gr cr ne nl oe ol fl tl tn N)) {s k n : Nat} (s0 : 0 < s) (hk : 32 ≤ k) (h : rd_Kth ps fr s k n) : n = 0 := by
  rcases h with ⟨k0, _⟩ | ⟨c, k0, k1, k2, k3⟩
  · exact k0
  · exfalso
    have f1 := rI_pos1 I k1 s0 k2
    have := rd_cbS (ps := ps) (fr := fr) (s := s) (p := fr c) (p' := 0) (by omega) k2 (Nat.lt_irrefl _) (by omega) k1
    have := rd_cbL (ps := ps) (fr := fr) (s := s) (p := 0) 32
    omega
end
theorem i_vc_lane {k : Nat} {u : SX} {v : SY} (I : i_Rel k u v) (hk : k + 5 ≤ 2560) (v1 : Int32) (v2 : Int32) (v3 : Int32) : wpX_lane (fun r => wpY_lane (fun r' => r' = r ∧ i_Rel (k + 5) u v) v v1 v2 v3) u v1 v2 v3 := by
  obtain ⟨ln, fm, tt, le, li, rk, we, op, ca, mk, wd, wn, fa, pc, ph, pa, pe, pt, se, ls, mo, tp, ac, sz, dw, st, ty, ed, fr, sp, go, nz, tk, en, ch, nw, ps, pg, cf, ct, la, gr, cr, ne, nl, oe, ol, fl, tl, tn, kn, N, th, gp, fs, rfl, rfl, I, hW, hN, hT⟩ := I
  have R0 : i_Rel (k + 5) (nI tn, rn_A ln, rn_A fm, rn_A tt, rn_A le, rn_A li, rn_A rk, rn_A we, rn_A op, rn_A ca, rn_A mk, rn_B wd, rn_B wn, rn_A pc, rn_A ph, rn_A pa, rn_A pe, rn_A pt, rn_A tp, rn_A ac, rn_A sz, rn_A dw, rn_A st, rn_A ty, rn_A ed, rn_B ps, rn_A fr, rn_A sp, rn_A go, rn_A nz, rn_B pg, rn_B cf, rn_B ct, rn_A tk, rn_A en, rn_B ch, rn_A nw, rn_A tl) (nI kn, nI tn, th, rn_T ln, rn_A op, rn_A fm, rn_A tt, rn_A le, rn_A ln, rn_A li, rn_A rk, rn_A we, rn_A ca, rn_A mk, rn_A fa, rn_A tp, rn_A ac, rn_A sz, rn_A dw, rn_A st, rn_A ty, rn_A ed, rn_A la, rn_A fr, rn_A sp, rn_A go, rn_A nz, rn_A tk, rn_C ch, rn_A en, rn_A nw, rn_A gr, rn_A cr, rn_A ne, rn_A nl, rn_A oe, rn_A ol, rn_A fl, rn_A pc, rn_A ph, rn_A pa, rn_A se, rn_A ls, rn_A mo, rn_A tl, gp, fs) := rl_rel I hW (by omega) (by omega)
  have hl : ∀ e, ln e ≤ 2 := fun e => (rI_e I.1 e).1
  rcases Classical.em (rq_la ln v1 v2 ∧ ¬ v3 < 0) with ⟨⟨e, l, he, rfl, rfl, hle⟩, h3⟩ | hn
  · obtain ⟨m, hm, rfl⟩ := nI_of h3
    have B := hl e
    have l1 : l ≤ 1 := by omega
    obtain ⟨n, hK⟩ := rl_kth I (s := 2 * e + l + 1) (k := m)
    have ya : ∀ post : Int32 → Prop, post (rn_c n) → wpY_lane post (nI kn, nI tn, th, rn_T ln, rn_A op, rn_A fm, rn_A tt, rn_A le, rn_A ln, rn_A li, rn_A rk, rn_A we, rn_A ca, rn_A mk, rn_A fa, rn_A tp, rn_A ac, rn_A sz, rn_A dw, rn_A st, rn_A ty, rn_A ed, rn_A la, rn_A fr, rn_A sp, rn_A go, rn_A nz, rn_A tk, rn_C ch, rn_A en, rn_A nw, rn_A gr, rn_A cr, rn_A ne, rn_A nl, rn_A oe, rn_A ol, rn_A fl, rn_A pc, rn_A ph, rn_A pa, rn_A se, rn_A ls, rn_A mo, rn_A tl, gp, fs) (nI e) (nI l) (nI m) := by
      intro post h
      unfold wpY_lane
      refine ry_ie _ _ (rb_b (fun w => absurd ⟨e, he, rfl, by omega⟩ w) (fun _ => ⟨pk_in e 16 he, ?_⟩))
      rw [rn_rA (by omega), show (1 : Int32) = nI 1 from rfl, pk_sub (by omega)]
      refine ry_in _ _ _ _ (rb_b (fun w => absurd ⟨nI_pos (by omega), nI_nlt (b := l) (by omega) (by omega)⟩ w) (fun _ => br_t (nI_pos' hm) ?_))
      refine ry_nu _ rfl rfl (p := 1000) rfl (by omega) l1 (by omega) (rI_on I.1) (rI_fr I.1) (fun j hj w => ?_) ⟨35, ry_l50 post I he l1 hm hK h 35 0 1000 (by omega) (rd_cb0 (fun a _ _ => by have := rI_fr I.1 a; omega)) (by omega) (by omega)⟩
      have : ¬ nI j < 0 := nI_pos (by omega)
      rw [w] at this
      exact absurd (by decide) this
    unfold wpX_lane
    refine rx_il _ _ _ hl (rb_b (fun w => absurd ⟨e, l, he, rfl, rfl, hle⟩ w) (fun _ => br_f (nI_pos hm) (pk_lt m 32 (fun z => nm_r (e' := nI (2 * e + l)) (by rw [show (2 : Int32) * nI e = nI (2 * e) from pk_mul 2 _, nI_add]) (rx_ln _ I (by omega) z hK (ya _ ⟨rfl, R0⟩))) (fun z => ?_))))
    have n0 := rl_kbig I (by omega) z hK
    have := ya (fun r' => r' = -2 ∧ i_Rel (k + 5) (nI tn, rn_A ln, rn_A fm, rn_A tt, rn_A le, rn_A li, rn_A rk, rn_A we, rn_A op, rn_A ca, rn_A mk, rn_B wd, rn_B wn, rn_A pc, rn_A ph, rn_A pa, rn_A pe, rn_A pt, rn_A tp, rn_A ac, rn_A sz, rn_A dw, rn_A st, rn_A ty, rn_A ed, rn_B ps, rn_A fr, rn_A sp, rn_A go, rn_A nz, rn_B pg, rn_B cf, rn_B ct, rn_A tk, rn_A en, rn_B ch, rn_A nw, rn_A tl) (nI kn, nI tn, th, rn_T ln, rn_A op, rn_A fm, rn_A tt, rn_A le, rn_A ln, rn_A li, rn_A rk, rn_A we, rn_A ca, rn_A mk, rn_A fa, rn_A tp, rn_A ac, rn_A sz, rn_A dw, rn_A st, rn_A ty, rn_A ed, rn_A la, rn_A fr, rn_A sp, rn_A go, rn_A nz, rn_A tk, rn_C ch, rn_A en, rn_A nw, rn_A gr, rn_A cr, rn_A ne, rn_A nl, rn_A oe, rn_A ol, rn_A fl, rn_A pc, rn_A ph, rn_A pa, rn_A se, rn_A ls, rn_A mo, rn_A tl, gp, fs)) (by rw [n0]; exact ⟨rfl, R0⟩)
    exact this
  · have yr : wpY_lane (fun r' => r' = -2 ∧ i_Rel (k + 5) (nI tn, rn_A ln, rn_A fm, rn_A tt, rn_A le, rn_A li, rn_A rk, rn_A we, rn_A op, rn_A ca, rn_A mk, rn_B wd, rn_B wn, rn_A pc, rn_A ph, rn_A pa, rn_A pe, rn_A pt, rn_A tp, rn_A ac, rn_A sz, rn_A dw, rn_A st, rn_A ty, rn_A ed, rn_B ps, rn_A fr, rn_A sp, rn_A go, rn_A nz, rn_B pg, rn_B cf, rn_B ct, rn_A tk, rn_A en, rn_B ch, rn_A nw, rn_A tl) (nI kn, nI tn, th, rn_T ln, rn_A op, rn_A fm, rn_A tt, rn_A le, rn_A ln, rn_A li, rn_A rk, rn_A we, rn_A ca, rn_A mk, rn_A fa, rn_A tp, rn_A ac, rn_A sz, rn_A dw, rn_A st, rn_A ty, rn_A ed, rn_A la, rn_A fr, rn_A sp, rn_A go, rn_A nz, rn_A tk, rn_C ch, rn_A en, rn_A nw, rn_A gr, rn_A cr, rn_A ne, rn_A nl, rn_A oe, rn_A ol, rn_A fl, rn_A pc, rn_A ph, rn_A pa, rn_A se, rn_A ls, rn_A mo, rn_A tl, gp, fs)) (nI kn, nI tn, th, rn_T ln, rn_A op, rn_A fm, rn_A tt, rn_A le, rn_A ln, rn_A li, rn_A rk, rn_A we, rn_A ca, rn_A mk, rn_A fa, rn_A tp, rn_A ac, rn_A sz, rn_A dw, rn_A st, rn_A ty, rn_A ed, rn_A la, rn_A fr, rn_A sp, rn_A go, rn_A nz, rn_A tk, rn_C ch, rn_A en, rn_A nw, rn_A gr, rn_A cr, rn_A ne, rn_A nl, rn_A oe, rn_A ol, rn_A fl, rn_A pc, rn_A ph, rn_A pa, rn_A se, rn_A ls, rn_A mo, rn_A tl, gp, fs) v1 v2 v3 := by
      unfold wpY_lane
      refine ry_ie _ _ (rb_b (fun _ => ⟨rfl, R0⟩) (fun ⟨e, he, q, hte⟩ => ?_))
      subst q
      have B := hl e
      refine ⟨pk_in e 16 he, ?_⟩
      rw [rn_rA (by omega), show (1 : Int32) = nI 1 from rfl, pk_sub (by omega)]
      refine ry_in _ _ _ _ (rb_b (fun _ => ⟨rfl, R0⟩) (fun w => br_c (fun w2 => ?_) (fun _ => ⟨rfl, R0⟩)))
      obtain ⟨l, q1, _, h1⟩ := rn_rg (a := 0) (b := ln e - 1) (by omega) (by omega) w.1 w.2
      exact absurd ⟨⟨e, l, he, rfl, q1, by omega⟩, Int32.not_lt.mpr w2⟩ hn
    unfold wpX_lane
    exact rx_il _ _ _ hl (rb_b (fun _ => yr) (fun w => br_c (fun _ => yr) (fun k0 => absurd ⟨w, k0⟩ hn)))
end
section
/-! the constructors -/
theorem rn_fA {i x : Nat} (h : i < 2 ^ 31) : upd (rn_A (fun j => if j < i then x else 0)) (nI i).toNatClampNeg (nI x) = rn_A (fun j => if j < i + 1 then x else 0) := by
  rw [rn_uA h]
  congr 1
  funext j
  unfold ru_p
  by_cases z : j = i
  · rw [if_pos z, if_pos (by omega)]
  · rw [if_neg z]
    show (if j < i then x else 0) = _
    by_cases w : j < i
    · rw [if_pos w, if_pos (by omega)]
    · rw [if_neg w, if_neg (by omega)]
theorem ru_f0 {i : Nat} : ru_p (fun j => if j < i then 0 else 1) i 0 = (fun j => if j < i + 1 then 0 else 1) := by
  funext j
  unfold ru_p
  by_cases z : j = i
  · rw [if_pos z, if_pos (by omega)]
  · rw [if_neg z]
    show (if j < i then 0 else 1) = _
    by_cases w : j < i
    · rw [if_pos w, if_pos (by omega)]
    · rw [if_neg w, if_neg (by omega)]
theorem ru_z {i : Nat} : ru_p (fun _ => 0) i 0 = (fun _ => 0) := by
  funext j
  unfold ru_p
  split <;> rfl
theorem rn_A0 (x : Nat) : rn_A (fun j => if j < 0 then x else 0) = (fun _ => 0) := by
  funext j
  show nI (if j < 0 then x else 0) = 0
  rw [if_neg (by omega)]
  rfl
theorem rl_E0 : (rq_E (fun _ => 0) (fun _ => 0) (fun _ => 0) (fun _ => 0) (fun _ => 0) (fun _ => 0) (fun _ => 0) (fun _ => 0) (fun _ => 0)) := ⟨fun e => by dsimp only; omega, fun e h => absurd h (Nat.lt_irrefl 0), fun e _ => rfl⟩
theorem rl_I0 {wd wn : Nat → Nat} (h : (rq_WX (fun _ => 0) (fun _ => 0) (fun _ => 0) (fun _ => 0) (fun _ => 0) (fun _ => 0) (fun _ => 0) (fun _ => 0) wd wn)) : (rq_I (fun _ => 0) (fun _ => 0) (fun _ => 0) (fun _ => 0) (fun _ => 0) (fun _ => 0) (fun _ => 0) (fun _ => 0) (fun _ => 0) wd wn (fun _ => 0) (fun _ => 0) (fun _ => 0) (fun _ => 0) (fun _ => 0) (fun _ => 0) (fun _ => 0) (fun _ => 0) (fun j => if j < 4 then 6 else 0) (fun j => if j < 4 then 1 else 0) (fun j => if j < 4 then 4 else 0) (fun _ => 0) (fun _ => 0) (fun _ => 0) (fun _ => 0) (fun _ => 0) (fun _ => 0) (fun _ => 0) (fun _ => 0) (fun _ => 0) (fun _ => 1) (fun j => if j < 32 then 0 else 1) (fun j => if j < 32 then 0 else 1) (fun j => if j < 32 then 0 else 1) (fun j => if j < 32 then 0 else 1) (fun _ => 0) (fun _ => 0) (fun _ => 0) (fun _ => 0) (fun _ => 0) (fun _ => 0) (fun _ => 0) (fun _ => 0) (fun _ => 0) 0 0) := by
  refine ⟨⟨rl_E0, ⟨fun c => by dsimp only; omega, fun c hc => ?_⟩, fun j hj => ?_, fun t ht => ?_, h, rfl, by omega, by omega⟩, rd_none (fun c hc => if_pos hc) (fun c hc => if_pos hc)⟩
  · dsimp only
    rw [if_pos hc]
    exact ⟨fun w => absurd rfl w, fun w => by omega, fun _ => ⟨rfl, rfl, rfl⟩, Or.inl ⟨rfl, rfl⟩, fun w => by omega⟩
  · dsimp only
    exact ⟨by omega, fun _ => ⟨rfl, rfl⟩, fun w => by omega, by omega, fun k hk => by omega⟩
  · dsimp only
    rw [if_pos ht, if_pos ht, if_pos ht]
    omega
theorem rl_xi (post : SX → Prop) (H : ∀ wd wn, (rq_WX (fun _ => 0) (fun _ => 0) (fun _ => 0) (fun _ => 0) (fun _ => 0) (fun _ => 0) (fun _ => 0) (fun _ => 0) wd wn) → post (nI 0, rn_A (fun _ => 0), rn_A (fun _ => 0), rn_A (fun _ => 0), rn_A (fun _ => 0), rn_A (fun _ => 0), rn_A (fun _ => 0), rn_A (fun _ => 0), rn_A (fun _ => 0), rn_A (fun _ => 0), rn_A (fun _ => 0), rn_B wd, rn_B wn, rn_A (fun _ => 0), rn_A (fun _ => 0), rn_A (fun _ => 0), rn_A (fun _ => 0), rn_A (fun _ => 0), rn_A (fun j => if j < 4 then 6 else 0), rn_A (fun j => if j < 4 then 1 else 0), rn_A (fun j => if j < 4 then 4 else 0), rn_A (fun _ => 0), rn_A (fun _ => 0), rn_A (fun _ => 0), rn_A (fun _ => 0), rn_B (fun j => if j < 32 then 0 else 1), rn_A (fun _ => 0), rn_A (fun _ => 0), rn_A (fun _ => 0), rn_A (fun _ => 0), rn_B (fun j => if j < 32 then 0 else 1), rn_B (fun j => if j < 32 then 0 else 1), rn_B (fun j => if j < 32 then 0 else 1), rn_A (fun _ => 0), rn_A (fun _ => 0), rn_B (fun _ => 1), rn_A (fun _ => 0), rn_A (fun _ => 0))) : ∀ n i, i ≤ 32 → 32 - i < n → wX_init_340 post n (nI i) (nI 0) (rn_A (fun _ => 0)) (rn_A (fun _ => 0)) (rn_A (fun _ => 0)) (rn_A (fun _ => 0)) (rn_A (fun _ => 0)) (rn_A (fun _ => 0)) (rn_A (fun _ => 0)) (rn_A (fun _ => 0)) (rn_A (fun _ => 0)) (rn_A (fun _ => 0)) (rn_B (fun _ => 1)) (rn_B (fun _ => 1)) (rn_A (fun _ => 0)) (rn_A (fun _ => 0)) (rn_A (fun _ => 0)) (rn_A (fun _ => 0)) (rn_A (fun _ => 0)) (rn_A (fun j => if j < 4 then 6 else 0)) (rn_A (fun j => if j < 4 then 1 else 0)) (rn_A (fun j => if j < 4 then 4 else 0)) (rn_A (fun _ => 0)) (rn_A (fun _ => 0)) (rn_A (fun _ => 0)) (rn_A (fun _ => 0)) (rn_B (fun j => if j < i then 0 else 1)) (rn_A (fun _ => 0)) (rn_A (fun _ => 0)) (rn_A (fun _ => 0)) (rn_A (fun _ => 0)) (rn_B (fun j => if j < i then 0 else 1)) (rn_B (fun j => if j < i then 0 else 1)) (rn_B (fun j => if j < i then 0 else 1)) (rn_A (fun _ => 0)) (rn_A (fun _ => 0)) (rn_B (fun _ => 1)) (rn_A (fun _ => 0)) (rn_A (fun _ => 0)) := by
  intro n
  induction n with
  | zero => intro i _ h; omega
  | succ n ih =>
    intro i hi hn
    refine pk_le 32 i (fun z => ?_) (fun z => rx_to _ rfl z ?_)
    · have e : i = 32 := by omega
      subst e
      exact rx_ways _ rl_E0 H
    · rw [ru_f0, ru_z]
      exact nm_r (nI_1 i) (ih (i + 1) (by omega) (by omega))
theorem rl_xj (post : SX → Prop) (H : ∀ wd wn, (rq_WX (fun _ => 0) (fun _ => 0) (fun _ => 0) (fun _ => 0) (fun _ => 0) (fun _ => 0) (fun _ => 0) (fun _ => 0) wd wn) → post (nI 0, rn_A (fun _ => 0), rn_A (fun _ => 0), rn_A (fun _ => 0), rn_A (fun _ => 0), rn_A (fun _ => 0), rn_A (fun _ => 0), rn_A (fun _ => 0), rn_A (fun _ => 0), rn_A (fun _ => 0), rn_A (fun _ => 0), rn_B wd, rn_B wn, rn_A (fun _ => 0), rn_A (fun _ => 0), rn_A (fun _ => 0), rn_A (fun _ => 0), rn_A (fun _ => 0), rn_A (fun j => if j < 4 then 6 else 0), rn_A (fun j => if j < 4 then 1 else 0), rn_A (fun j => if j < 4 then 4 else 0), rn_A (fun _ => 0), rn_A (fun _ => 0), rn_A (fun _ => 0), rn_A (fun _ => 0), rn_B (fun j => if j < 32 then 0 else 1), rn_A (fun _ => 0), rn_A (fun _ => 0), rn_A (fun _ => 0), rn_A (fun _ => 0), rn_B (fun j => if j < 32 then 0 else 1), rn_B (fun j => if j < 32 then 0 else 1), rn_B (fun j => if j < 32 then 0 else 1), rn_A (fun _ => 0), rn_A (fun _ => 0), rn_B (fun _ => 1), rn_A (fun _ => 0), rn_A (fun _ => 0))) : ∀ n i, i ≤ 4 → 4 - i < n → wX_init_305 post 0 n (nI i) (rn_A (fun _ => 0)) (rn_A (fun _ => 0)) (rn_A (fun _ => 0)) (rn_A (fun _ => 0)) (rn_A (fun _ => 0)) (rn_A (fun _ => 0)) (rn_A (fun _ => 0)) (rn_A (fun _ => 0)) (rn_A (fun _ => 0)) (rn_A (fun _ => 0)) (rn_B (fun _ => 1)) (rn_B (fun _ => 1)) (rn_A (fun _ => 0)) (rn_A (fun _ => 0)) (rn_A (fun _ => 0)) (rn_A (fun _ => 0)) (rn_A (fun _ => 0)) (rn_A (fun j => if j < i then 6 else 0)) (rn_A (fun j => if j < i then 1 else 0)) (rn_A (fun j => if j < i then 4 else 0)) (rn_A (fun _ => 0)) (rn_A (fun _ => 0)) (rn_A (fun _ => 0)) (rn_A (fun _ => 0)) (rn_B (fun _ => 1)) (rn_A (fun _ => 0)) (rn_A (fun _ => 0)) (rn_A (fun _ => 0)) (rn_A (fun _ => 0)) (rn_B (fun _ => 1)) (rn_B (fun _ => 1)) (rn_B (fun _ => 1)) (rn_A (fun _ => 0)) (rn_A (fun _ => 0)) (rn_B (fun _ => 1)) (rn_A (fun _ => 0)) (rn_A (fun _ => 0)) := by
  intro n
  induction n with
  | zero => intro i _ h; omega
  | succ n ih =>
    intro i hi hn
    refine pk_le 4 i (fun z => ?_) (fun z => ⟨pk_in i 4 z, nm_r (rn_fA (x := 6) (by omega)) ⟨pk_in i 4 z, nm_r (rn_fA (x := 1) (by omega)) ⟨pk_in i 4 z, nm_r (rn_fA (x := 4) (by omega)) (nm_r (nI_1 i) (ih (i + 1) (by omega) (by omega)))⟩⟩⟩)
    have e : i = 4 := by omega
    subst e
    have t := rl_xi post H 33 0 (by omega) (by omega)
    exact ⟨33, t⟩
theorem rl_yj (post : SY → Prop) (H : post (nI 0, nI 0, 0, rn_T (fun _ => 0), rn_A (fun _ => 0), rn_A (fun _ => 0), rn_A (fun _ => 0), rn_A (fun _ => 0), rn_A (fun _ => 0), rn_A (fun _ => 0), rn_A (fun _ => 0), rn_A (fun _ => 0), rn_A (fun _ => 0), rn_A (fun _ => 0), rn_A (fun _ => 0), rn_A (fun j => if j < 4 then 6 else 0), rn_A (fun j => if j < 4 then 1 else 0), rn_A (fun j => if j < 4 then 4 else 0), rn_A (fun _ => 0), rn_A (fun _ => 0), rn_A (fun _ => 0), rn_A (fun _ => 0), rn_A (fun _ => 0), rn_A (fun _ => 0), rn_A (fun _ => 0), rn_A (fun _ => 0), rn_A (fun _ => 0), rn_A (fun _ => 0), rn_C (fun _ => 1), rn_A (fun _ => 0), rn_A (fun _ => 0), rn_A (fun _ => 0), rn_A (fun _ => 0), rn_A (fun _ => 0), rn_A (fun _ => 0), rn_A (fun _ => 0), rn_A (fun _ => 0), rn_A (fun _ => 0), rn_A (fun _ => 0), rn_A (fun _ => 0), rn_A (fun _ => 0), rn_A (fun _ => 0), rn_A (fun _ => 0), rn_A (fun _ => 0), rn_A (fun _ => 0), (fun _ => 0), (fun _ => 0))) : ∀ n i, i ≤ 4 → 4 - i < n → wY_init_353 post 0 0 0 n (nI i) (rn_T (fun _ => 0)) (rn_A (fun _ => 0)) (rn_A (fun _ => 0)) (rn_A (fun _ => 0)) (rn_A (fun _ => 0)) (rn_A (fun _ => 0)) (rn_A (fun _ => 0)) (rn_A (fun _ => 0)) (rn_A (fun _ => 0)) (rn_A (fun _ => 0)) (rn_A (fun _ => 0)) (rn_A (fun _ => 0)) (rn_A (fun j => if j < i then 6 else 0)) (rn_A (fun j => if j < i then 1 else 0)) (rn_A (fun j => if j < i then 4 else 0)) (rn_A (fun _ => 0)) (rn_A (fun _ => 0)) (rn_A (fun _ => 0)) (rn_A (fun _ => 0)) (rn_A (fun _ => 0)) (rn_A (fun _ => 0)) (rn_A (fun _ => 0)) (rn_A (fun _ => 0)) (rn_A (fun _ => 0)) (rn_A (fun _ => 0)) (rn_C (fun _ => 1)) (rn_A (fun _ => 0)) (rn_A (fun _ => 0)) (rn_A (fun _ => 0)) (rn_A (fun _ => 0)) (rn_A (fun _ => 0)) (rn_A (fun _ => 0)) (rn_A (fun _ => 0)) (rn_A (fun _ => 0)) (rn_A (fun _ => 0)) (rn_A (fun _ => 0)) (rn_A (fun _ => 0)) (rn_A (fun _ => 0)) (rn_A (fun _ => 0)) (rn_A (fun _ => 0)) (rn_A (fun _ => 0)) (rn_A (fun _ => 0)) (fun _ => 0) (fun _ => 0) := by
  intro n
  induction n with
  | zero => intro i _ h; omega
  | succ n ih =>
    intro i hi hn
    refine pk_le 4 i (fun z => ?_) (fun z => ⟨pk_in i 4 z, nm_r (rn_fA (x := 6) (by omega)) ⟨pk_in i 4 z, nm_r (rn_fA (x := 1) (by omega)) ⟨pk_in i 4 z, nm_r (rn_fA (x := 4) (by omega)) (nm_r (nI_1 i) (ih (i + 1) (by omega) (by omega)))⟩⟩⟩)
    have e : i = 4 := by omega
    subst e
    exact H
theorem i_vc0 : wpX_init (fun u => wpY_init (fun v => i_Rel 0 u v)) := by
  have H : ∀ wd wn, (rq_WX (fun _ => 0) (fun _ => 0) (fun _ => 0) (fun _ => 0) (fun _ => 0) (fun _ => 0) (fun _ => 0) (fun _ => 0) wd wn) → wpY_init (fun v => i_Rel 0 (nI 0, rn_A (fun _ => 0), rn_A (fun _ => 0), rn_A (fun _ => 0), rn_A (fun _ => 0), rn_A (fun _ => 0), rn_A (fun _ => 0), rn_A (fun _ => 0), rn_A (fun _ => 0), rn_A (fun _ => 0), rn_A (fun _ => 0), rn_B wd, rn_B wn, rn_A (fun _ => 0), rn_A (fun _ => 0), rn_A (fun _ => 0), rn_A (fun _ => 0), rn_A (fun _ => 0), rn_A (fun j => if j < 4 then 6 else 0), rn_A (fun j => if j < 4 then 1 else 0), rn_A (fun j => if j < 4 then 4 else 0), rn_A (fun _ => 0), rn_A (fun _ => 0), rn_A (fun _ => 0), rn_A (fun _ => 0), rn_B (fun j => if j < 32 then 0 else 1), rn_A (fun _ => 0), rn_A (fun _ => 0), rn_A (fun _ => 0), rn_A (fun _ => 0), rn_B (fun j => if j < 32 then 0 else 1), rn_B (fun j => if j < 32 then 0 else 1), rn_B (fun j => if j < 32 then 0 else 1), rn_A (fun _ => 0), rn_A (fun _ => 0), rn_B (fun _ => 1), rn_A (fun _ => 0), rn_A (fun _ => 0)) v) := by
    intro wd wn h
    have t := rl_yj (fun v => i_Rel 0 (nI 0, rn_A (fun _ => 0), rn_A (fun _ => 0), rn_A (fun _ => 0), rn_A (fun _ => 0), rn_A (fun _ => 0), rn_A (fun _ => 0), rn_A (fun _ => 0), rn_A (fun _ => 0), rn_A (fun _ => 0), rn_A (fun _ => 0), rn_B wd, rn_B wn, rn_A (fun _ => 0), rn_A (fun _ => 0), rn_A (fun _ => 0), rn_A (fun _ => 0), rn_A (fun _ => 0), rn_A (fun j => if j < 4 then 6 else 0), rn_A (fun j => if j < 4 then 1 else 0), rn_A (fun j => if j < 4 then 4 else 0), rn_A (fun _ => 0), rn_A (fun _ => 0), rn_A (fun _ => 0), rn_A (fun _ => 0), rn_B (fun j => if j < 32 then 0 else 1), rn_A (fun _ => 0), rn_A (fun _ => 0), rn_A (fun _ => 0), rn_A (fun _ => 0), rn_B (fun j => if j < 32 then 0 else 1), rn_B (fun j => if j < 32 then 0 else 1), rn_B (fun j => if j < 32 then 0 else 1), rn_A (fun _ => 0), rn_A (fun _ => 0), rn_B (fun _ => 1), rn_A (fun _ => 0), rn_A (fun _ => 0)) v) (rl_rel (rl_I0 h) (Or.inl rfl) (by omega) (by omega)) 5 0 (by omega) (by omega)
    rw [rn_A0, rn_A0, rn_A0] at t
    exact ⟨5, t⟩
  have t := rl_xj (fun u => wpY_init (fun v => i_Rel 0 u v)) H 5 0 (by omega) (by omega)
  rw [rn_A0, rn_A0, rn_A0] at t
  exact ⟨5, t⟩
end
section
/-! total -/
theorem i_vc_total {k : Nat} {u : SX} {v : SY} (I : i_Rel k u v) (hk : k + 5 ≤ 2560) (v1 : Int32) : wpX_total (fun r => wpY_total (fun r' => r' = r ∧ i_Rel (k + 5) u v) v v1) u v1 := by
  obtain ⟨ln, fm, tt, le, li, rk, we, op, ca, mk, wd, wn, fa, pc, ph, pa, pe, pt, se, ls, mo, tp, ac, sz, dw, st, ty, ed, fr, sp, go, nz, tk, en, ch, nw, ps, pg, cf, ct, la, gr, cr, ne, nl, oe, ol, fl, tl, tn, kn, N, th, gp, fs, rfl, rfl, I, hW, hN, hT⟩ := I
  have R0 : i_Rel (k + 5) (nI tn, rn_A ln, rn_A fm, rn_A tt, rn_A le, rn_A li, rn_A rk, rn_A we, rn_A op, rn_A ca, rn_A mk, rn_B wd, rn_B wn, rn_A pc, rn_A ph, rn_A pa, rn_A pe, rn_A pt, rn_A tp, rn_A ac, rn_A sz, rn_A dw, rn_A st, rn_A ty, rn_A ed, rn_B ps, rn_A fr, rn_A sp, rn_A go, rn_A nz, rn_B pg, rn_B cf, rn_B ct, rn_A tk, rn_A en, rn_B ch, rn_A nw, rn_A tl) (nI kn, nI tn, th, rn_T ln, rn_A op, rn_A fm, rn_A tt, rn_A le, rn_A ln, rn_A li, rn_A rk, rn_A we, rn_A ca, rn_A mk, rn_A fa, rn_A tp, rn_A ac, rn_A sz, rn_A dw, rn_A st, rn_A ty, rn_A ed, rn_A la, rn_A fr, rn_A sp, rn_A go, rn_A nz, rn_A tk, rn_C ch, rn_A en, rn_A nw, rn_A gr, rn_A cr, rn_A ne, rn_A nl, rn_A oe, rn_A ol, rn_A fl, rn_A pc, rn_A ph, rn_A pa, rn_A se, rn_A ls, rn_A mo, rn_A tl, gp, fs) := rl_rel I hW (by omega) (by omega)
  rcases Classical.em (∃ w, w < 7 ∧ v1 = nI w) with ⟨w, hw, rfl⟩ | hn
  · refine br_f (nI_pos (by omega)) (br_t (nI_lt (b := 7) hw (by decide)) ⟨pk_in w 7 hw, ?_⟩)
    unfold wpY_total
    exact ry_in _ _ _ _ (rb_b (fun z => absurd ⟨nI_pos (by omega), nI_nlt (a := 6) (b := w) (by omega) (by decide)⟩ z) (fun _ => ⟨pk_in w 7 hw, rfl, R0⟩))
  · have yr : wpY_total (fun r' => r' = -1 ∧ i_Rel (k + 5) (nI tn, rn_A ln, rn_A fm, rn_A tt, rn_A le, rn_A li, rn_A rk, rn_A we, rn_A op, rn_A ca, rn_A mk, rn_B wd, rn_B wn, rn_A pc, rn_A ph, rn_A pa, rn_A pe, rn_A pt, rn_A tp, rn_A ac, rn_A sz, rn_A dw, rn_A st, rn_A ty, rn_A ed, rn_B ps, rn_A fr, rn_A sp, rn_A go, rn_A nz, rn_B pg, rn_B cf, rn_B ct, rn_A tk, rn_A en, rn_B ch, rn_A nw, rn_A tl) (nI kn, nI tn, th, rn_T ln, rn_A op, rn_A fm, rn_A tt, rn_A le, rn_A ln, rn_A li, rn_A rk, rn_A we, rn_A ca, rn_A mk, rn_A fa, rn_A tp, rn_A ac, rn_A sz, rn_A dw, rn_A st, rn_A ty, rn_A ed, rn_A la, rn_A fr, rn_A sp, rn_A go, rn_A nz, rn_A tk, rn_C ch, rn_A en, rn_A nw, rn_A gr, rn_A cr, rn_A ne, rn_A nl, rn_A oe, rn_A ol, rn_A fl, rn_A pc, rn_A ph, rn_A pa, rn_A se, rn_A ls, rn_A mo, rn_A tl, gp, fs)) (nI kn, nI tn, th, rn_T ln, rn_A op, rn_A fm, rn_A tt, rn_A le, rn_A ln, rn_A li, rn_A rk, rn_A we, rn_A ca, rn_A mk, rn_A fa, rn_A tp, rn_A ac, rn_A sz, rn_A dw, rn_A st, rn_A ty, rn_A ed, rn_A la, rn_A fr, rn_A sp, rn_A go, rn_A nz, rn_A tk, rn_C ch, rn_A en, rn_A nw, rn_A gr, rn_A cr, rn_A ne, rn_A nl, rn_A oe, rn_A ol, rn_A fl, rn_A pc, rn_A ph, rn_A pa, rn_A se, rn_A ls, rn_A mo, rn_A tl, gp, fs) v1 := by
      unfold wpY_total
      refine ry_in _ _ _ _ (rb_b (fun _ => ⟨rfl, R0⟩) (fun z => ?_))
      obtain ⟨x, q, _, hx⟩ := rn_rg (a := 0) (b := 6) (by omega) (by omega) z.1 z.2
      exact absurd ⟨x, by omega, q⟩ hn
    refine br_c (fun _ => yr) (fun k0 => br_c (fun k1 => ?_) (fun _ => yr))
    obtain ⟨x, q, _, hx⟩ := rn_rg (a := 0) (b := 6) (by omega) (by omega) k0 (fun z => by
      rw [Int32.lt_iff_toInt_lt] at z k1
      rw [show (7 : Int32).toInt = 7 from by decide] at k1
      rw [nI_toInt (by omega)] at z
      omega)
    exact absurd ⟨x, by omega, q⟩ hn
end
