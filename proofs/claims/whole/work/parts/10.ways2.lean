/-! the ways once more: Y's sweeps over all goals, X's rounds to one goal -/
section
variable {K : Nat → Nat → Prop} {co : Nat → Nat} {g : Nat} {tg : Prop} {T T' δ δ' δ0 nx : Nat → Nat} {th : Nat → Prop}
theorem ry_SupE (hg : g < 16) (h : ∀ e, e < 16 → T e = T' e) (k : ry_Sup K co g tg T) : ry_Sup K co g tg T' := by
  obtain ⟨k1, k2, k3, k4⟩ := k
  refine ⟨fun e he => by rw [← h e he]; exact k1 e he, fun z => by rw [← h g hg]; exact k2 z, fun z => by rw [← h g hg]; exact k3 z, fun e he hn ht => ?_⟩
  rw [← h e he] at ht
  obtain ⟨f, f1, f2, f3, f4⟩ := k4 e he hn ht
  exact ⟨f, f1, f2, by rw [← h f f1]; exact f3, by rw [← h f f1, ← h e he]; exact f4⟩
theorem ry_AE (h : ∀ e, e < 16 → T e = T' e) (k : ry_A K co g T) : ry_A K co g T' := by
  intro e f he hf hn hK ht
  rw [← h f hf] at ht
  rw [← h e he, ← h f hf]
  exact k e f he hf hn hK ht
/-- no goal: no ways -/
theorem ry_SupN (hc : ∀ e f, K e f → 1 ≤ co f) (hn : ¬ tg) (k : ry_Sup K co g tg T) : ∀ t e, e < 16 → T e < t → ¬ T e < 1000000 := by
  intro t
  induction t with
  | zero => intro e _ h; omega
  | succ t ih =>
    intro e he ht hl
    rcases Nat.decEq e g with q | q
    · obtain ⟨f, f1, f2, f3, f4⟩ := k.2.2.2 e he q hl
      have := hc e f f2
      exact ih f f1 (by omega) f3
    · subst q
      have := k.2.2.1 hn
      omega
def ry_All (K : Nat → Nat → Prop) (co ln fa : Nat → Nat) : Prop := ∀ g, g < 16 → ry_Sup K co g (0 < ln g) (fun e => fa (16 * g + e))
theorem ry_AllU {ln fa : Nat → Nat} (h : ry_All K co ln fa) {e f : Nat} (hg : g < 16) (he : e < 16) (hf : f < 16) (hn : e ≠ g) (hK : K e f) (ht : fa (16 * g + f) < 1000000) (hl : fa (16 * g + f) + co f < fa (16 * g + e)) : ry_All K co ln (ru_p fa (16 * g + e) (fa (16 * g + f) + co f)) := by
  intro g' hg'
  rcases Nat.decEq g' g with q | q
  · refine ry_SupE hg' (fun i hi => ?_) (h g' hg')
    exact (ru_n (by omega)).symm
  · subst q
    refine ry_SupE hg' (fun i hi => ?_) (ry_SupU (h g' hg') he hf hn hK ht hl)
    rcases Nat.decEq i e with p | p
    · rw [ru_n p, ru_n (by omega)]
    · subst p; rw [ru_s, ru_s]
/-- what a sweep that shortened nothing has seen at k -/
def ry_At (K : Nat → Nat → Prop) (co fa : Nat → Nat) (k : Nat) : Prop := ∀ f, f < 16 → k % 16 ≠ k / 16 → K (k % 16) f → fa (16 * (k / 16) + f) < 1000000 → fa k ≤ fa (16 * (k / 16) + f) + co f
theorem ry_AllB {ln fa : Nat → Nat} (h : ry_All K co ln fa) (hA : ∀ k, k < 256 → ry_At K co fa k) : ∀ g, g < 16 → ry_Bel K co g (0 < ln g) (fun e => fa (16 * g + e)) := by
  intro g hg
  refine ⟨h g hg, fun e f he hf hn hK ht => ?_⟩
  have a := hA (16 * g + e) (by omega) f hf
  have e1 : (16 * g + e) % 16 = e := by omega
  have e2 : (16 * g + e) / 16 = g := by omega
  rw [e1, e2] at a
  exact a hn hK ht
theorem ry_FnE (h : ∀ e, e < 16 → δ e = δ' e) {e n b l : Nat} (hn : n ≤ 16) (k : ry_Fn K co δ e n b l) : ry_Fn K co δ' e n b l := by
  rcases k with ⟨k1, k2, k3⟩ | ⟨f, k1, k2, k3, k4, k5, k6, k7⟩
  · exact Or.inl ⟨k1, k2, fun f hf hK => by rw [← h f (by omega)]; exact k3 f hf hK⟩
  · have hf := h f (by omega)
    refine Or.inr ⟨f, k1, k2, k3, by rw [← hf]; exact k4, by rw [← hf]; exact k5, fun f' hf' hK hp => ?_, fun f' hf' hK hp => ?_⟩
    · have e1 := h f' (by omega)
      rw [← e1] at hp ⊢
      exact k6 f' hf' hK hp
    · have e1 := h f' (by omega)
      rw [← e1] at hp ⊢
      exact k7 f' hf' hK hp
/-- X's round r, at edge e; δ0 as the round began; b: better -/
def ry_RI (th : Nat → Prop) (K : Nat → Nat → Prop) (co : Nat → Nat) (g : Nat) (T : Nat → Nat) (r e : Nat) (δ δ0 nx : Nat → Nat) (b : Nat) : Prop :=
  ry_Low T δ ∧ ry_Set T δ r ∧ (∀ i, i < e → i < 16 → T i < 1000000 → ry_rk T (T i) 16 ≤ r + 1 → δ i = T i + 1) ∧ (∀ i, i < 16 → δ i ≤ 1 + 1211 * (16 * r + e)) ∧ δ g = 1 ∧ (∀ i, i < 16 → ¬ th i → δ i = 0 ∧ nx i = 0) ∧ nx g = 0 ∧
  (b = 0 → (∀ i, i < 16 → δ i = δ0 i) ∧ ∀ i, i < e → i < 16 → th i → i ≠ g → ry_Fn K co δ0 i 16 (nx i) (δ0 i)) ∧ (r = 15 → b = 0)
theorem ry_FnB (hco : ∀ e f, K e f → co f ≤ 1211) {e n b l B : Nat} (hB : ∀ i, i < n → δ i ≤ B) (k : ry_Fn K co δ e n b l) : l ≤ 1211 + B := by
  rcases k with ⟨k1, k2, k3⟩ | ⟨f, k1, k2, k3, k4, k5, k6, k7⟩
  · omega
  · have := hB f k2
    have := hco e f k3
    omega
theorem ry_RIs (hc : ∀ e f, K e f → 1 ≤ co f) (hco : ∀ e f, K e f → co f ≤ 1211) (hT : ry_Bel K co g tg T) {r e b bb l : Nat} (hr : r < 16) (he : e < 16) (hn : e ≠ g) (ht : th e)
    (h : ry_RI th K co g T r e δ δ0 nx b) (hF : ry_Fn K co δ e 16 bb l) : ry_RI th K co g T r (e + 1) (ru_p δ e l) δ0 (ru_p nx e bb) (if δ e = l then b else 1) := by
  obtain ⟨h1, h2, h3, h4, h5, h6, h7, h8, h9⟩ := h
  have lB := ry_FnB hco h4 hF
  have l6 : l ≤ 1000000 := by omega
  have set1 : T e < 1000000 → ry_rk T (T e) 16 ≤ r + 1 → l = T e + 1 := fun a b => ry_FnSet hc hT h1 h2 he hn hF l6 a b
  have low1 : 0 < l → T e < 1000000 ∧ T e + 1 ≤ l := ry_FnLow hT h1 he hn hF l6
  refine ⟨fun i hi hp => ?_, fun i hi ha hb => ?_, fun i hi hi6 ha hb => ?_, fun i hi => ?_, ?_, fun i hi ha => ?_, ?_, fun hb => ?_, fun hr5 => ?_⟩
  · rcases Nat.decEq i e with q | q
    · rw [ru_n q] at hp ⊢; exact h1 i hi hp
    · subst q; rw [ru_s] at hp ⊢; exact low1 hp
  · rcases Nat.decEq i e with q | q
    · rw [ru_n q]; exact h2 i hi ha hb
    · subst q; rw [ru_s]; exact set1 ha (by omega)
  · rcases Nat.decEq i e with q | q
    · rw [ru_n q]; exact h3 i (by omega) hi6 ha hb
    · subst q; rw [ru_s]; exact set1 ha hb
  · rcases Nat.decEq i e with q | q
    · rw [ru_n q]; have := h4 i hi; omega
    · subst q; rw [ru_s]; omega
  · rw [ru_n (Ne.symm hn)]; exact h5
  · rcases Nat.decEq i e with q | q
    · rw [ru_n q, ru_n q]; exact h6 i hi ha
    · subst q; exact absurd ht ha
  · rw [ru_n (Ne.symm hn)]; exact h7
  · have eq : δ e = l := by
      rcases Nat.decEq (δ e) l with q | q
      · rw [if_neg q] at hb; omega
      · exact q
    rw [if_pos eq] at hb
    obtain ⟨m1, m2⟩ := h8 hb
    refine ⟨fun i hi => ?_, fun i hi hi6 hti hni => ?_⟩
    · rcases Nat.decEq i e with q | q
      · rw [ru_n q]; exact m1 i hi
      · subst q; rw [ru_s, ← eq]; exact m1 i hi
    · rcases Nat.decEq i e with q | q
      · rw [ru_n q]; exact m2 i (by omega) hi6 hti hni
      · subst q
        rw [ru_s, ← m1 i hi6, eq]
        exact ry_FnE m1 (Nat.le_refl _) hF
  · have eq : δ e = l := by
      rcases Nat.lt_or_ge (T e) 1000000 with q | q
      · have rb := ry_rkB (T := T) (Nat.le_refl (T e)) he
        rw [h2 e he q (by omega), set1 q (by omega)]
      · rcases Nat.eq_zero_or_pos (δ e) with a | a
        · rcases Nat.eq_zero_or_pos l with c | c
          · omega
          · have := (low1 c).1; omega
        · have := (h1 e he a).1; omega
    rw [if_pos eq]; exact h9 hr5
theorem ry_RIk (hKt : ∀ e f, K e f → th e) (hT : ry_Bel K co g tg T) (htg : tg) {r e b : Nat} (hk : e = g ∨ ¬ th e) (h : ry_RI th K co g T r e δ δ0 nx b) : ry_RI th K co g T r (e + 1) δ δ0 nx b := by
  obtain ⟨h1, h2, h3, h4, h5, h6, h7, h8, h9⟩ := h
  refine ⟨h1, h2, fun i hi hi6 ha hb => ?_, fun i hi => by have := h4 i hi; omega, h5, h6, h7, fun hb => ⟨(h8 hb).1, fun i hi hi6 hti hni => ?_⟩, h9⟩
  · rcases Nat.decEq i e with q | q
    · exact h3 i (by omega) hi6 ha hb
    · subst q
      rcases Nat.decEq i g with p | p
      · rcases hk with hk | hk
        · exact absurd hk p
        · obtain ⟨f, f1, f2, f3, f4⟩ := ry_eq hT hi6 p ha
          exact absurd (hKt i f f2) hk
      · subst p
        rw [h5, hT.1.2.1 htg]
  · rcases Nat.decEq i e with q | q
    · exact (h8 hb).2 i (by omega) hi6 hti hni
    · subst q
      rcases hk with hk | hk
      · exact absurd hk hni
      · exact absurd hti hk
/-- the next round -/
theorem ry_RIn {r b : Nat} (hb : b ≠ 0) (hr : r < 16) (h : ry_RI th K co g T r 16 δ δ0 nx b) : r + 1 < 16 ∧ ry_RI th K co g T (r + 1) 0 δ δ nx 0 := by
  obtain ⟨h1, h2, h3, h4, h5, h6, h7, h8, h9⟩ := h
  have r5 : r + 1 < 16 := by
    rcases Nat.decEq r 15 with q | q
    · omega
    · exact absurd (h9 q) hb
  refine ⟨r5, h1, fun i hi ha hb => h3 i hi hi ha hb, fun i hi => absurd hi (Nat.not_lt_zero i), fun i hi => by have := h4 i hi; omega, h5, h6, h7, fun _ => ⟨fun i _ => rfl, fun i hi => absurd hi (Nat.not_lt_zero i)⟩, fun _ => rfl⟩
/-- the first round -/
theorem ry_RI0 (hc : ∀ e f, K e f → 1 ≤ co f) (hthg : th g) (hT : ry_Bel K co g tg T) (htg : tg) (hg : g < 16) (hd : ∀ i, i < 16 → δ i = if i = g then 1 else 0) (hx : ∀ i, i < 16 → nx i = 0) : ry_RI th K co g T 0 0 δ δ nx 0 := by
  have t0 := hT.1.2.1 htg
  refine ⟨fun i hi hp => ?_, fun i hi ha hb => ?_, fun i hi => absurd hi (Nat.not_lt_zero i), fun i hi => ?_, ?_, fun i hi ha => ⟨?_, hx i hi⟩, hx g hg, fun _ => ⟨fun i _ => rfl, fun i hi => absurd hi (Nat.not_lt_zero i)⟩, fun _ => rfl⟩
  · rw [hd i hi] at hp ⊢
    rcases Nat.decEq i g with q | q
    · rw [if_neg q] at hp; omega
    · subst q; rw [if_pos rfl]; omega
  · rcases Nat.decEq i g with q | q
    · obtain ⟨f, f1, f2, f3, f4⟩ := ry_eq hT hi q ha
      have c1 := hc i f f2
      have := ry_rkL (T := T) (t := T i) (f := f) (by omega) f1
      omega
    · subst q; rw [hd i hi, if_pos rfl]; omega
  · rw [hd i hi]; split <;> omega
  · rw [hd g hg, if_pos rfl]
  · have q : i ≠ g := by intro z; subst z; exact ha hthg
    rw [hd i hi, if_neg q]
/-- the last round -/
theorem ry_RIe (hKt : ∀ e f, K e f → th e) (hg : g < 16) (htg : tg) {r : Nat} (hr : r < 16) (h : ry_RI th K co g T r 16 δ δ0 nx 0) : ry_Bel K co g tg (ry_dec δ) ∧ ∀ e, e < 16 → e ≠ g → ry_Nx K co (ry_dec δ) e (nx e) := by
  obtain ⟨h1, h2, h3, h4, h5, h6, h7, h8, h9⟩ := h
  obtain ⟨m1, m2⟩ := h8 rfl
  refine ry_fix (fun e he => by have := h4 e he; omega) hg (fun _ => h5) (fun z => absurd htg z) (fun e he hn => ?_)
  rcases Classical.em (th e) with q | q
  · have := m2 e he he q hn
    rw [← m1 e he] at this
    exact ry_FnE (fun i hi => (m1 i hi).symm) (Nat.le_refl _) this
  · obtain ⟨a, b⟩ := h6 e he q
    rw [a, b]
    exact Or.inl ⟨rfl, rfl, fun f _ hK => absurd (hKt e f hK) q⟩
end
/-! what both sides answer of the ways -/
section
variable {ln fm tt le li rk we op mk wd wn fa : Nat → Nat} {e g : Nat}
theorem rq_hc (hE : rq_E ln fm tt le li rk we op mk) : ∀ e f, rq_K ln fm tt op mk e f → 1 ≤ rq_co le li we f := fun _ _ h => (rq_coB hE (rq_Kf h).1).1
theorem rq_hco (hE : rq_E ln fm tt le li rk we op mk) : ∀ e f, rq_K ln fm tt op mk e f → rq_co le li we f ≤ 1211 := fun _ _ h => (rq_coB hE (rq_Kf h).1).2
theorem rq_wnB (hW : rq_WX ln fm tt le li we op mk wd wn) (he : e < 16) (hg : g < 16) : wn (16 * e + g) ≤ 16 ∧ (0 < wn (16 * e + g) → e ≠ g ∧ rq_K ln fm tt op mk e (wn (16 * e + g) - 1)) := by
  obtain ⟨T, t1, t2, t3, t4, t5⟩ := hW g hg
  rcases Nat.decEq e g with q | q
  · rcases t5 e he q with ⟨a, b⟩ | ⟨f, a1, a2, a3, a4, a5, a6⟩
    · exact ⟨by omega, fun z => by omega⟩
    · refine ⟨by omega, fun _ => ⟨q, ?_⟩⟩
      rw [a1]; exact a3
  · have := t4 e he q
    exact ⟨by omega, fun z => by omega⟩
theorem rq_nextY (hE : rq_E ln fm tt le li rk we op mk) (hW : rq_WX ln fm tt le li we op mk wd wn) (hg : g < 16) {F : Nat → Nat} (hF : ry_Bel (rq_K ln fm tt op mk) (rq_co le li we) g (0 < ln g) F) (he : e < 16) (hn : e ≠ g) :
    (wn (16 * e + g) = 0 → ¬ F e < 1000000) ∧ (∀ f, wn (16 * e + g) = f + 1 → F e < 1000000 ∧ f < 16 ∧ rq_K ln fm tt op mk e f ∧ F f < 1000000 ∧ F f + rq_co le li we f = F e ∧ ∀ f', f' < f → rq_K ln fm tt op mk e f' → F f' < 1000000 → F f' + rq_co le li we f' ≠ F e) := by
  obtain ⟨T, t1, t2, t3, t4, t5⟩ := hW g hg
  have hc := rq_hc hE
  have u : ∀ i, i < 16 → T i = F i := fun i hi => ry_uni hc t1 hF hi
  have k := ry_NxE u he (t5 e he hn)
  refine ⟨fun z => ?_, fun f hf => ?_⟩
  · rcases k with ⟨_, b⟩ | ⟨f, a1, _⟩
    · intro y
      obtain ⟨f, f1, f2, f3, f4⟩ := ry_eq hF he hn y
      exact b f f1 f2 f3
    · omega
  · rcases k with ⟨a, _⟩ | ⟨f', a1, a2, a3, a4, a5, a6⟩
    · omega
    · have q : f' = f := by omega
      subst q
      have b1 := t2 f' a2 (by rw [u f' a2]; exact a4)
      rw [u f' a2] at b1
      have b2 := rq_hco hE e f' a3
      exact ⟨by omega, a2, a3, a4, a5, a6⟩
theorem rq_distY (hE : rq_E ln fm tt le li rk we op mk) (hW : rq_WX ln fm tt le li we op mk wd wn) (hg : g < 16) {F : Nat → Nat} (hF : ry_Bel (rq_K ln fm tt op mk) (rq_co le li we) g (0 < ln g) F) (he : e < 16) : wd (16 * e + g) = if F e < 1000000 then F e + 1 else 0 := by
  obtain ⟨T, t1, t2, t3, t4, t5⟩ := hW g hg
  rw [t3 e he, ry_uni (rq_hc hE) t1 hF he]
end
