/-! the ways to one goal: T, the least costs, 1000000 for none; K e f: e is there and a lane of it leads to f, which is there and not shut -/
def ry_Sup (K : Nat → Nat → Prop) (co : Nat → Nat) (g : Nat) (tg : Prop) (T : Nat → Nat) : Prop :=
  (∀ e, e < 16 → T e ≤ 1000000) ∧ (tg → T g = 0) ∧ (¬ tg → T g = 1000000) ∧
  (∀ e, e < 16 → e ≠ g → T e < 1000000 → ∃ f, f < 16 ∧ K e f ∧ T f < 1000000 ∧ T f + co f ≤ T e)
def ry_A (K : Nat → Nat → Prop) (co : Nat → Nat) (g : Nat) (T : Nat → Nat) : Prop :=
  ∀ e f, e < 16 → f < 16 → e ≠ g → K e f → T f < 1000000 → T e ≤ T f + co f
def ry_Bel (K : Nat → Nat → Prop) (co : Nat → Nat) (g : Nat) (tg : Prop) (T : Nat → Nat) : Prop :=
  ry_Sup K co g tg T ∧ ry_A K co g T
section
variable {K : Nat → Nat → Prop} {co : Nat → Nat} {g : Nat} {tg : Prop} {T T' δ : Nat → Nat}
theorem ry_eq (h : ry_Bel K co g tg T) {e : Nat} (he : e < 16) (hg : e ≠ g) (ht : T e < 1000000) : ∃ f, f < 16 ∧ K e f ∧ T f < 1000000 ∧ T e = T f + co f := by
  obtain ⟨⟨_, _, _, h4⟩, hA⟩ := h
  obtain ⟨f, f1, f2, f3, f4⟩ := h4 e he hg ht
  have := hA e f he f1 hg f2 f3
  exact ⟨f, f1, f2, f3, by omega⟩
theorem ry_le (hc : ∀ e f, K e f → 1 ≤ co f) (h : ry_Bel K co g tg T) (h' : ry_Bel K co g tg T') : ∀ t e, e < 16 → T e < t → T' e ≤ T e := by
  intro t
  induction t with
  | zero => intro e _ ht; omega
  | succ t ih =>
    intro e he ht
    rcases Nat.lt_or_ge (T e) 1000000 with k | k
    · rcases Nat.decEq e g with q | q
      · obtain ⟨f, f1, f2, f3, f4⟩ := ry_eq h he q k
        have c1 := hc e f f2
        have i1 := ih f f1 (by omega)
        have := h'.2 e f he f1 q f2 (by omega)
        omega
      · subst q
        rcases Classical.em tg with z | z
        · have := h'.1.2.1 z; omega
        · have := h.1.2.2.1 z; omega
    · have := h'.1.1 e he; omega
theorem ry_uni (hc : ∀ e f, K e f → 1 ≤ co f) (h : ry_Bel K co g tg T) (h' : ry_Bel K co g tg T') {e : Nat} (he : e < 16) : T e = T' e :=
  Nat.le_antisymm (ry_le hc h' h (T' e + 1) e he (by omega)) (ry_le hc h h' (T e + 1) e he (by omega))
theorem ry_SupU (h : ry_Sup K co g tg T) {e f : Nat} (he : e < 16) (hf : f < 16) (hg : e ≠ g) (hK : K e f) (ht : T f < 1000000) (hl : T f + co f < T e) : ry_Sup K co g tg (ru_p T e (T f + co f)) := by
  obtain ⟨h1, h2, h3, h4⟩ := h
  have hfe : f ≠ e := by intro z; subst z; omega
  have hb := h1 e he
  refine ⟨fun j hj => ?_, fun z => ?_, fun z => ?_, fun j hj jg jt => ?_⟩
  · rcases Nat.decEq j e with q | q
    · rw [ru_n q]; exact h1 j hj
    · subst q; rw [ru_s]; omega
  · rw [ru_n (Ne.symm hg)]; exact h2 z
  · rw [ru_n (Ne.symm hg)]; exact h3 z
  · rcases Nat.decEq j e with q | q
    · rw [ru_n q] at jt ⊢
      obtain ⟨i, i1, i2, i3, i4⟩ := h4 j hj jg jt
      rcases Nat.decEq i e with p | p
      · exact ⟨i, i1, i2, by rw [ru_n p]; exact i3, by rw [ru_n p]; exact i4⟩
      · subst p
        exact ⟨i, i1, i2, by rw [ru_s]; omega, by rw [ru_s]; omega⟩
    · subst q
      exact ⟨f, hf, hK, by rw [ru_n hfe]; exact ht, by rw [ru_n hfe, ru_s]; omega⟩
def ry_sum (T : Nat → Nat) : Nat → Nat
  | 0 => 0
  | n + 1 => ry_sum T n + T n
theorem ry_sumE : ∀ {n : Nat}, (∀ j, j < n → T j = T' j) → ry_sum T n = ry_sum T' n
  | 0, _ => rfl
  | n + 1, h => by
    have a := ry_sumE (n := n) (fun j hj => h j (by omega))
    have b := h n (by omega)
    simp only [ry_sum]; omega
theorem ry_sumL {e x : Nat} (hx : x < T e) : ∀ {n : Nat}, e < n → ry_sum (ru_p T e x) n < ry_sum T n
  | 0, h => by omega
  | n + 1, h => by
    simp only [ry_sum]
    rcases Nat.decEq e n with q | q
    · have a := ry_sumL hx (n := n) (by omega)
      rw [ru_n (Ne.symm q)]; omega
    · subst q
      have a : ry_sum (ru_p T e x) e = ry_sum T e := ry_sumE (fun j hj => ru_n (by omega))
      rw [ru_s]; omega
theorem ry_ex : ∀ s (T : Nat → Nat), ry_Sup K co g tg T → ry_sum T 16 < s → ∃ T', ry_Bel K co g tg T' := by
  intro s
  induction s with
  | zero => intro T _ h; omega
  | succ s ih =>
    intro T hT hs
    rcases Classical.em (ry_A K co g T) with hA | hA
    · exact ⟨T, hT, hA⟩
    · have : ∃ e f, e < 16 ∧ f < 16 ∧ e ≠ g ∧ K e f ∧ T f < 1000000 ∧ T f + co f < T e := by
        apply Classical.byContradiction
        intro hn
        apply hA
        intro e f he hf hg hK ht
        rcases Nat.lt_or_ge (T f + co f) (T e) with q | q
        · exact absurd ⟨e, f, he, hf, hg, hK, ht, q⟩ hn
        · exact q
      obtain ⟨e, f, he, hf, hg, hK, ht, hl⟩ := this
      exact ih _ (ry_SupU hT he hf hg hK ht hl) (by have := ry_sumL (T := T) hl he; omega)
theorem ry_exist (K : Nat → Nat → Prop) (co : Nat → Nat) (g : Nat) (tg : Prop) : ∃ T, ry_Bel K co g tg T := by
  rcases Classical.em tg with z | z
  · refine ry_ex _ (fun j => if j = g then 0 else 1000000) ⟨fun e _ => ?_, fun _ => if_pos rfl, fun k => absurd z k, fun e _ hg ht => ?_⟩ (Nat.lt_succ_self _)
    · show (if e = g then 0 else 1000000) ≤ 1000000
      split <;> omega
    · have : (if e = g then 0 else 1000000) < 1000000 := ht
      rw [if_neg hg] at this; omega
  · refine ry_ex _ (fun _ => 1000000) ⟨fun e _ => Nat.le_refl _, fun k => absurd k z, fun _ => rfl, fun e _ hg ht => ?_⟩ (Nat.lt_succ_self _)
    have : (1000000 : Nat) < 1000000 := ht
    omega
/-! how many of the first n are below t -/
def ry_rk (T : Nat → Nat) (t : Nat) : Nat → Nat
  | 0 => 0
  | n + 1 => ry_rk T t n + (if T n < t then 1 else 0)
theorem ry_rkM {t t' : Nat} (h : t ≤ t') : ∀ n, ry_rk T t n ≤ ry_rk T t' n
  | 0 => Nat.le_refl _
  | n + 1 => by
    have a := ry_rkM h n
    simp only [ry_rk]
    split <;> split <;> omega
theorem ry_rkL {t f : Nat} (h : T f < t) : ∀ {n : Nat}, f < n → ry_rk T (T f) n < ry_rk T t n
  | 0, k => by omega
  | n + 1, k => by
    simp only [ry_rk]
    rcases Nat.decEq f n with q | q
    · have a := ry_rkL h (n := n) (by omega)
      split <;> split <;> omega
    · subst q
      have a := ry_rkM (T := T) (Nat.le_of_lt h) f
      rw [if_neg (Nat.lt_irrefl _), if_pos h]; omega
theorem ry_rkN (t : Nat) : ∀ n, ry_rk T t n ≤ n
  | 0 => Nat.le_refl _
  | n + 1 => by
    have a := ry_rkN t n
    simp only [ry_rk]
    split <;> omega
theorem ry_rkB {t e : Nat} (h : t ≤ T e) : ∀ {n : Nat}, e < n → ry_rk T t n < n
  | 0, k => by omega
  | n + 1, k => by
    simp only [ry_rk]
    rcases Nat.decEq e n with q | q
    · have a := ry_rkB h (n := n) (by omega)
      split <;> omega
    · subst q
      have a := ry_rkN (T := T) t e
      rw [if_neg (by omega)]; omega
/-! X's distances: δ e is 0 for none, else one more than the distance -/
def ry_Low (T δ : Nat → Nat) : Prop := ∀ e, e < 16 → 0 < δ e → T e < 1000000 ∧ T e + 1 ≤ δ e
def ry_Set (T δ : Nat → Nat) (r : Nat) : Prop := ∀ e, e < 16 → T e < 1000000 → ry_rk T (T e) 16 ≤ r → δ e = T e + 1
/-- what X's scan has found among the first n: b is 0 for none, else one more than the edge; l one more than the sum -/
def ry_Fn (K : Nat → Nat → Prop) (co δ : Nat → Nat) (e n b l : Nat) : Prop :=
  (b = 0 ∧ l = 0 ∧ ∀ f, f < n → K e f → δ f = 0) ∨
  (∃ f, b = f + 1 ∧ f < n ∧ K e f ∧ 0 < δ f ∧ l = co f + δ f ∧ (∀ f', f' < n → K e f' → 0 < δ f' → l ≤ co f' + δ f') ∧ ∀ f', f' < f → K e f' → 0 < δ f' → l < co f' + δ f')
theorem ry_Fn0 {e : Nat} : ry_Fn K co δ e 0 0 0 := Or.inl ⟨rfl, rfl, fun f h => absurd h (Nat.not_lt_zero f)⟩
theorem ry_FnN {e n b l : Nat} (h : ry_Fn K co δ e n b l) (hn : ¬ (K e n ∧ 0 < δ n ∧ (b = 0 ∨ co n + δ n < l))) : ry_Fn K co δ e (n + 1) b l := by
  rcases h with ⟨h1, h2, h3⟩ | ⟨f, h1, h2, h3, h4, h5, h6, h7⟩
  · refine Or.inl ⟨h1, h2, fun f hf hK => ?_⟩
    rcases Nat.decEq f n with q | q
    · exact h3 f (by omega) hK
    · subst q
      rcases Nat.eq_zero_or_pos (δ f) with z | z
      · exact z
      · exact absurd ⟨hK, z, Or.inl h1⟩ hn
  · refine Or.inr ⟨f, h1, by omega, h3, h4, h5, fun f' hf' hK hp => ?_, h7⟩
    rcases Nat.decEq f' n with q | q
    · exact h6 f' (by omega) hK hp
    · subst q
      rcases Nat.lt_or_ge (co f' + δ f') l with z | z
      · exact absurd ⟨hK, hp, Or.inr z⟩ hn
      · exact z
theorem ry_FnS {e n b l : Nat} (h : ry_Fn K co δ e n b l) (hK : K e n) (hp : 0 < δ n) (hb : b = 0 ∨ co n + δ n < l) : ry_Fn K co δ e (n + 1) (n + 1) (co n + δ n) := by
  have low : ∀ f', f' < n → K e f' → 0 < δ f' → co n + δ n < co f' + δ f' := by
    intro f' hf' hK' hp'
    rcases h with ⟨h1, h2, h3⟩ | ⟨f, h1, h2, h3, h4, h5, h6, h7⟩
    · have := h3 f' hf' hK'; omega
    · have := h6 f' hf' hK' hp'
      rcases hb with z | z <;> omega
  refine Or.inr ⟨n, rfl, by omega, hK, hp, rfl, fun f' hf' hK' hp' => ?_, low⟩
  rcases Nat.decEq f' n with q | q
  · have := low f' (by omega) hK' hp'; omega
  · subst q; exact Nat.le_refl _
theorem ry_FnLow (hT : ry_Bel K co g tg T) (hL : ry_Low T δ) {e b l : Nat} (he : e < 16) (hg : e ≠ g) (h : ry_Fn K co δ e 16 b l) (hl : l ≤ 1000000) (h0 : 0 < l) : T e < 1000000 ∧ T e + 1 ≤ l := by
  rcases h with ⟨h1, h2, h3⟩ | ⟨f, h1, h2, h3, h4, h5, h6, h7⟩
  · omega
  · obtain ⟨a, b⟩ := hL f h2 h4
    have := hT.2 e f he h2 hg h3 a
    omega
theorem ry_FnSet (hc : ∀ e f, K e f → 1 ≤ co f) (hT : ry_Bel K co g tg T) (hL : ry_Low T δ) {r : Nat} (hS : ry_Set T δ r) {e b l : Nat} (he : e < 16) (hg : e ≠ g) (h : ry_Fn K co δ e 16 b l) (hl : l ≤ 1000000) (ht : T e < 1000000) (hr : ry_rk T (T e) 16 ≤ r + 1) : l = T e + 1 := by
  obtain ⟨f, f1, f2, f3, f4⟩ := ry_eq hT he hg ht
  have c1 := hc e f f2
  have hlt : T f < T e := by omega
  have r1 := ry_rkL (T := T) hlt f1
  have s1 := hS f f1 f3 (by omega)
  have hle : l ≤ T e + 1 ∧ 0 < l := by
    rcases h with ⟨h1, h2, h3⟩ | ⟨f', h1, h2, h3, h4, h5, h6, h7⟩
    · have := h3 f f1 f2; omega
    · have := h6 f f1 f2 (by omega); omega
  have := ry_FnLow hT hL he hg h hl hle.2
  omega
/-- X's NEXT -/
def ry_Nx (K : Nat → Nat → Prop) (co T : Nat → Nat) (e b : Nat) : Prop :=
  (b = 0 ∧ ∀ f, f < 16 → K e f → ¬ T f < 1000000) ∨
  (∃ f, b = f + 1 ∧ f < 16 ∧ K e f ∧ T f < 1000000 ∧ T f + co f = T e ∧ ∀ f', f' < f → K e f' → T f' < 1000000 → T f' + co f' ≠ T e)
def ry_dec (δ : Nat → Nat) : Nat → Nat := fun e => if δ e = 0 then 1000000 else δ e - 1
theorem ry_decL {e : Nat} (hb : δ e ≤ 1000000) : ry_dec δ e < 1000000 ↔ 0 < δ e := by
  unfold ry_dec
  split <;> omega
theorem ry_decV {e : Nat} (h : 0 < δ e) : ry_dec δ e + 1 = δ e := by
  unfold ry_dec
  rw [if_neg (by omega)]; omega
/-- a last round that changed nothing -/
theorem ry_fix (hb : ∀ e, e < 16 → δ e ≤ 1000000) (hg : g < 16) (h1 : tg → δ g = 1) (h0 : ¬ tg → δ g = 0) {nx : Nat → Nat} (h : ∀ e, e < 16 → e ≠ g → ry_Fn K co δ e 16 (nx e) (δ e)) : ry_Bel K co g tg (ry_dec δ) ∧ ∀ e, e < 16 → e ≠ g → ry_Nx K co (ry_dec δ) e (nx e) := by
  refine ⟨⟨⟨fun e he => ?_, fun z => ?_, fun z => ?_, fun e he hn ht => ?_⟩, fun e f he hf hn hK ht => ?_⟩, fun e he hn => ?_⟩
  · have := hb e he
    unfold ry_dec
    split <;> omega
  · have := h1 z
    unfold ry_dec
    rw [if_neg (by omega)]; omega
  · have := h0 z
    unfold ry_dec
    rw [if_pos this]
  · have d1 := (ry_decL (hb e he)).mp ht
    rcases h e he hn with ⟨_, h2, _⟩ | ⟨f, _, h2, h3, h4, h5, _, _⟩
    · omega
    · have a := ry_decV d1
      have b := ry_decV h4
      exact ⟨f, h2, h3, (ry_decL (hb f h2)).mpr h4, by omega⟩
  · have d1 := (ry_decL (hb f hf)).mp ht
    have b := ry_decV d1
    rcases h e he hn with ⟨_, _, h3⟩ | ⟨f', _, _, _, h4, h5, h6, _⟩
    · have := h3 f hf hK; omega
    · have := h6 f hf hK d1
      have a := ry_decV (δ := δ) (e := e) (by omega)
      omega
  · rcases h e he hn with ⟨h1', h2, h3⟩ | ⟨f, h1', h2, h3, h4, h5, h6, h7⟩
    · refine Or.inl ⟨h1', fun f hf hK ht => ?_⟩
      have := (ry_decL (hb f hf)).mp ht
      have := h3 f hf hK
      omega
    · have a := ry_decV (δ := δ) (e := e) (by omega)
      have b := ry_decV h4
      refine Or.inr ⟨f, h1', h2, h3, (ry_decL (hb f h2)).mpr h4, by omega, fun f' hf' hK ht => ?_⟩
      have d1 := (ry_decL (hb f' (by omega))).mp ht
      have c := ry_decV d1
      have := h7 f' hf' hK d1
      omega
theorem ry_NxE (h : ∀ e, e < 16 → T e = T' e) {e b : Nat} (he : e < 16) (hN : ry_Nx K co T e b) : ry_Nx K co T' e b := by
  rcases hN with ⟨h1, h2⟩ | ⟨f, h1, h2, h3, h4, h5, h6⟩
  · exact Or.inl ⟨h1, fun f hf hK => by rw [← h f hf]; exact h2 f hf hK⟩
  · refine Or.inr ⟨f, h1, h2, h3, by rw [← h f h2]; exact h4, by rw [← h f h2, ← h e he]; exact h5, fun f' hf' hK => ?_⟩
    rw [← h f' (by omega), ← h e he]
    exact h6 f' hf' hK
end
