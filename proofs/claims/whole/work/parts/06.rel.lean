/-! the numbers behind both states, and what the private methods decide -/
def rq_ld (ln fm tt mk : Nat → Nat) (s f : Nat) : Prop := 0 < ln f ∧ fm f = tt (s / 2) ∧ rd_bt (mk s) f
def rq_el (ln fm tt mk : Nat → Nat) (e f : Nat) : Prop := rq_ld ln fm tt mk (2 * e) f ∨ (ln e = 2 ∧ rq_ld ln fm tt mk (2 * e + 1) f)
def rq_K (ln fm tt op mk : Nat → Nat) (e f : Nat) : Prop := 0 < ln e ∧ op f = 1 ∧ rq_el ln fm tt mk e f
def rq_co (le li we : Nat → Nat) (f : Nat) : Nat := (le f + li f - 1) / li f + we f
def rq_E (ln fm tt le li rk we op mk : Nat → Nat) : Prop :=
  (∀ e, ln e ≤ 2 ∧ fm e < 8 ∧ tt e < 8 ∧ le e ≤ 200 ∧ li e ≤ 12 ∧ rk e ≤ 3 ∧ we e ≤ 1000 ∧ op e ≤ 1 ∧ mk e < 65536) ∧
  (∀ e, 0 < ln e → fm e ≠ tt e ∧ 20 ≤ le e ∧ 1 ≤ li e) ∧ (∀ e, ln e = 0 → op e = 0)
def rq_WX (ln fm tt le li we op mk wd wn : Nat → Nat) : Prop := ∀ g, g < 16 → ∃ T, ry_Bel (rq_K ln fm tt op mk) (rq_co le li we) g (0 < ln g) T ∧
  (∀ e, e < 16 → T e < 1000000 → T e ≤ 400000) ∧ (∀ e, e < 16 → wd (16 * e + g) = if T e < 1000000 then T e + 1 else 0) ∧
  (∀ e, e < 16 → e = g → wn (16 * e + g) = 0) ∧ (∀ e, e < 16 → e ≠ g → ry_Nx (rq_K ln fm tt op mk) (rq_co le li we) T e (wn (16 * e + g)))
def rq_WY (ln fm tt le li we op mk fa : Nat → Nat) (kn : Nat) : Prop := kn = 0 ∨ (kn = 1 ∧ ∀ g, g < 16 → ry_Bel (rq_K ln fm tt op mk) (rq_co le li we) g (0 < ln g) (fun e => fa (16 * g + e)))
def rq_P (pc ph pa pe pt se ls mo : Nat → Nat) (N : Nat) : Prop := ∀ j, j < 8 → pc j ≤ 4 ∧ (pc j = 0 → ph j = 0 ∧ pa j = 0) ∧ (0 < pc j → ph j < pc j) ∧ pa j ≤ N ∧
  (∀ k, k < pc j → pe (4 * j + k) = se (4 * j + k) ∧ se (4 * j + k) < 65536 ∧ pt (4 * j + k) = ls (4 * j + k) + 100 * mo (4 * j + k) ∧ ls (4 * j + k) < 100 ∧ mo (4 * j + k) < 100)
def rq_Ty (tp ac sz dw : Nat → Nat) : Prop := ∀ t, t < 4 → 1 ≤ tp t ∧ tp t ≤ 12 ∧ 1 ≤ ac t ∧ ac t ≤ 3 ∧ 3 ≤ sz t ∧ sz t ≤ 8 ∧ dw t ≤ 9
def rq_C (ln st ty ed fr sp go tk en ch ps pg cf ct la gr cr ne nl oe ol fl : Nat → Nat) (tn N : Nat) : Prop :=
  (∀ c, st c ≤ 2 ∧ ty c < 4 ∧ ed c < 16 ∧ go c < 16 ∧ fr c ≤ 400 ∧ sp c ≤ 12 ∧ tk c ≤ tn ∧ en c ≤ N ∧ ch c ≤ N + 1 ∧ la c ≤ 1) ∧
  (∀ c, c < 32 → (st c ≠ 0 → 0 < ln (ed c) ∧ 0 < ln (go c)) ∧ (st c = 2 → ps c = 2 * ed c + la c + 1 ∧ la c < ln (ed c)) ∧ (st c ≠ 2 → ps c = 0 ∧ pg c = 0 ∧ cf c = 0) ∧
    ((pg c = 0 ∧ gr c = 0) ∨ (gr c = 1 ∧ pg c = 2 * ne c + nl c + 1 ∧ nl c < ln (ne c) ∧ ne c < 16)) ∧
    (st c = 2 → (cf c = 0 ∧ cr c = 0) ∨ (cr c = 1 ∧ cf c = 2 * oe c + ol c + 1 ∧ ol c < 2 ∧ oe c < 16 ∧ ct c = 2 * ed c + fl c + 1 ∧ fl c < 2)))
/-- GREEN -/
def rq_gn (tt pc ph pe : Nat → Nat) (e : Nat) : Prop := pc (tt e) = 0 ∨ rd_bt (pe (4 * tt e + ph (tt e))) e
/-- the spot to ask for, from NEXT's code n and the own spot's code p -/
def rq_as (ln : Nat → Nat) (n p : Nat) : Nat := if n = 0 then 0 else if ln (n - 1) = 2 then 2 * (n - 1) + (p - 1) % 2 + 1 else 2 * (n - 1) + 1
def rq_nx (wn ed go : Nat → Nat) (c : Nat) : Nat := wn (16 * ed c + go c)
def rq_ask (ln fm tt le mk wn pc ph pe st ed fr go ps pg : Nat → Nat) (j c : Nat) : Prop :=
  st c = 2 ∧ tt (ed c) = j ∧ pg c = 0 ∧ go c ≠ ed c ∧ le (ed c) ≤ fr c + 40 ∧ rq_gn tt pc ph pe (ed c) ∧ 0 < rq_nx wn ed go c ∧ rq_ld ln fm tt mk (ps c - 1) (rq_nx wn ed go c - 1) ∧
  (rd_nr ps fr (ps c) (fr c) 32 = 0 ∨ pg (rd_nr ps fr (ps c) (fr c) 32 - 1) = rq_as ln (rq_nx wn ed go c) (ps c))
/-- stands before -/
def rq_bf (rk le ed fr ps : Nat → Nat) (c d : Nat) : Prop := rk (ed d) < rk (ed c) ∨ (rk (ed c) = rk (ed d) ∧ (le (ed c) + fr d < le (ed d) + fr c ∨ (le (ed c) + fr d = le (ed d) + fr c ∧ ps c < ps d)))
/-- SAFE as if granted s -/
def rq_cs (le ed fr sp go ps zs : Nat → Nat) (s c : Nat) : Prop :=
  (go c ≠ rd_q s → rd_D (sp c) + fr c ≤ le (ed c) + le (rd_q s)) ∧
  (∀ a, rd_nr ps fr (ps c) (fr c) 32 = a + 1 → rd_Fo (fr c) (sp c) (fr a) (sp a) (zs a)) ∧
  (rd_nr ps fr (ps c) (fr c) 32 = 0 → ∀ b, rd_nr ps fr s 0 32 = b + 1 → rd_Fo (fr c) (sp c) (fr b + le (ed c)) (sp b) (zs b))
/-- bound to cross j -/
def rq_bd (tt ed pg : Nat → Nat) (j d : Nat) : Prop := pg d ≠ 0 ∧ tt (ed d) = j
def rq_hd (fm tt ed fr pg cf zs : Nat → Nat) (j d : Nat) : Prop := (cf d ≠ 0 ∧ fm (ed d) = j ∧ fr d < zs d) ∨ rq_bd tt ed pg j d
noncomputable def rq_hf (tt ed ps pg cf : Nat → Nat) (j d : Nat) : Nat := @ite Nat (rq_bd tt ed pg j d) (Classical.propDecidable _) (ps d) (cf d)
noncomputable def rq_ht (tt ed pg ct : Nat → Nat) (j d : Nat) : Nat := @ite Nat (rq_bd tt ed pg j d) (Classical.propDecidable _) (pg d) (ct d)
def rq_mh (fm tt rk le ed fr ps pg cf ct zs : Nat → Nat) (A : Nat → Prop) (j s c : Nat) : Prop :=
  (∀ d, d < 32 → rq_hd fm tt ed fr pg cf zs j d → rq_hf tt ed ps pg cf j d = ps c ∧ rq_ht tt ed pg ct j d = s) ∧
  ((∃ d, d < 32 ∧ rq_hd fm tt ed fr pg cf zs j d) → ∀ b, b < 32 → A b → ps b ≠ ps c → ¬ rq_bf rk le ed fr ps b c)
/-- the first of those that P picks, in the order B -/
noncomputable def rq_1st (P : Nat → Prop) (B : Nat → Nat → Prop) : Nat → Nat
  | 0 => 0
  | i + 1 => @ite Nat (P i ∧ (rq_1st P B i = 0 ∨ B i (rq_1st P B i - 1))) (Classical.propDecidable _) (i + 1) (rq_1st P B i)
theorem rq_1stS (P : Nat → Prop) (B : Nat → Nat → Prop) : ∀ i, rq_1st P B i = 0 ∨ ∃ a, rq_1st P B i = a + 1 ∧ a < i ∧ P a
  | 0 => Or.inl rfl
  | i + 1 => by
    have ih := rq_1stS P B i
    simp only [rq_1st]
    by_cases h : P i ∧ (rq_1st P B i = 0 ∨ B i (rq_1st P B i - 1))
    · rw [if_pos h]; exact Or.inr ⟨i, rfl, by omega, h.1⟩
    · rw [if_neg h]
      rcases ih with k | ⟨a, k1, k2, k3⟩
      · exact Or.inl k
      · exact Or.inr ⟨a, k1, by omega, k3⟩
theorem rq_1stP {P : Nat → Prop} {B : Nat → Nat → Prop} {i : Nat} (h : P i ∧ (rq_1st P B i = 0 ∨ B i (rq_1st P B i - 1))) : rq_1st P B (i + 1) = i + 1 := by
  simp only [rq_1st]; rw [if_pos h]
theorem rq_1stN {P : Nat → Prop} {B : Nat → Nat → Prop} {i : Nat} (h : ¬ (P i ∧ (rq_1st P B i = 0 ∨ B i (rq_1st P B i - 1)))) : rq_1st P B (i + 1) = rq_1st P B i := by
  simp only [rq_1st]; rw [if_neg h]
/-- LANES: may, wants, has room; o is the other spot's code -/
def rq_may (pg ch : Nat → Nat) (N c : Nat) : Prop := pg c = 0 ∧ (ch c = 0 ∨ ch c + 4 ≤ N)
def rq_wants (ln fm tt mk tp ty ed fr sp go ps zs : Nat → Nat) (n o c : Nat) : Prop :=
  (0 < n ∧ rq_ld ln fm tt mk (o - 1) (n - 1) ∧ ¬ rq_ld ln fm tt mk (ps c - 1) (n - 1)) ∨
  (∃ a, rd_nr ps fr (ps c) (fr c) 32 = a + 1 ∧ sp a < tp (ty c) ∧ fr a < zs a + 1 + fr c + 20 ∧
    (rd_nr ps fr o (fr c) 32 = 0 ∨ fr a + zs (rd_nr ps fr o (fr c) 32 - 1) + 10 ≤ fr (rd_nr ps fr o (fr c) 32 - 1) + zs a) ∧
    ((0 < n ∧ rq_ld ln fm tt mk (o - 1) (n - 1)) ∨ go c = ed c))
def rq_room (fr sp ps pg zs : Nat → Nat) (o c : Nat) : Prop :=
  (∀ a, rd_nr ps fr o (fr c) 32 = a + 1 → rd_Fo (fr c) (sp c) (fr a) (sp a) (zs a)) ∧
  (rd_nu ps fr o (fr c) 32 = 0 → ∀ d, d < 32 → pg d ≠ o) ∧
  (∀ b, rd_nu ps fr o (fr c) 32 = b + 1 → pg b = 0 ∧ rd_Fo (fr b) (sp b) (fr c) (sp c) (zs c))
/-- the code of the spot beside -/
def rq_ot (p : Nat) : Nat := if (p - 1) % 2 = 0 then p + 1 else p - 1
theorem rq_otE {e l : Nat} (h : l ≤ 1) : rq_ot (2 * e + l + 1) = 2 * e + (1 - l) + 1 := by
  unfold rq_ot
  split <;> omega
theorem rq_coB {ln fm tt le li rk we op mk : Nat → Nat} (h : rq_E ln fm tt le li rk we op mk) {f : Nat} (hf : 0 < ln f) : 1 ≤ rq_co le li we f ∧ rq_co le li we f ≤ 1211 := by
  obtain ⟨h1, h2, h3⟩ := h
  have a := h1 f
  have b := h2 f hf
  unfold rq_co
  have d1 : (le f + li f - 1) / li f ≤ le f + li f - 1 := Nat.div_le_self _ _
  have d2 : 1 ≤ (le f + li f - 1) / li f := (Nat.le_div_iff_mul_le (by omega)).mpr (by omega)
  omega
theorem rq_Kf {ln fm tt op mk : Nat → Nat} {e f : Nat} (h : rq_K ln fm tt op mk e f) : 0 < ln f ∧ 0 < ln e ∧ op f = 1 ∧ fm f = tt e := by
  obtain ⟨h1, h2, h3⟩ := h
  rcases h3 with h3 | ⟨_, h3⟩
  · exact ⟨h3.1, h1, h2, by have := h3.2.1; rw [this]; congr 1; omega⟩
  · exact ⟨h3.1, h1, h2, by have := h3.2.1; rw [this]; congr 1; omega⟩
