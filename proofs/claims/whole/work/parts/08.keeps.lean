/-! grants, changes and entries keep all that holds of the cars -/
theorem rd_qE {e l : Nat} (h : l ≤ 1) : rd_q (2 * e + l + 1) = e := by
  unfold rd_q
  omega
section
variable {ln fm tt le li rk we op mk wn pc ph pe st ty ed fr sp go tk en ch ps pg cf ct la gr cr ne nl oe ol fl zs : Nat → Nat} {tn N j c n s : Nat}
theorem rq_psE (hC : rq_C ln st ty ed fr sp go tk en ch ps pg cf ct la gr cr ne nl oe ol fl tn N) {c : Nat} (hc : c < 32) (h : st c = 2) : rd_q (ps c) = ed c ∧ 0 < ps c ∧ ps c ≤ 32 ∧ (ps c - 1) / 2 = ed c ∧ (ps c - 1) % 2 = la c ∧ la c ≤ 1 := by
  have a := hC.1 c
  have b := ((hC.2 c hc).2.1 h).1
  have l1 : la c ≤ 1 := by omega
  refine ⟨by rw [b]; exact rd_qE l1, by omega, by omega, by omega, by omega, l1⟩
theorem rq_pgS (hC : rq_C ln st ty ed fr sp go tk en ch ps pg cf ct la gr cr ne nl oe ol fl tn N) {d : Nat} (hd : d < 32) (h : 0 < pg d) : st d = 2 ∧ gr d = 1 ∧ pg d = 2 * ne d + nl d + 1 ∧ nl d < ln (ne d) ∧ ne d < 16 := by
  obtain ⟨_, _, b3, b4, _⟩ := hC.2 d hd
  have s2 : st d = 2 := by
    rcases Nat.decEq (st d) 2 with z | z
    · have := (b3 z).2.1; omega
    · exact z
  rcases b4 with q | q
  · omega
  · exact ⟨s2, q.1, q.2.1, q.2.2.1, q.2.2.2⟩
theorem rq_asE {l : Nat} (hn : 0 < n) (h2 : ln (n - 1) ≤ 2) (h0 : 0 < ln (n - 1)) {p : Nat} (hl : (p - 1) % 2 = l) : rq_as ln n p = 2 * (n - 1) + (if ln (n - 1) = 1 then 0 else l) + 1 ∧ rd_q (rq_as ln n p) = n - 1 ∧ (if ln (n - 1) = 1 then 0 else l) < ln (n - 1) := by
  have l1 : l ≤ 1 := by omega
  unfold rq_as
  rw [if_neg (by omega)]
  by_cases z : ln (n - 1) = 2
  · rw [if_pos z, if_neg (by omega), hl]
    exact ⟨rfl, rd_qE l1, by omega⟩
  · rw [if_neg z, if_pos (by omega)]
    exact ⟨rfl, rd_qE (l := 0) (by omega), by omega⟩
theorem rq_grantS (hE : rq_E ln fm tt le li rk we op mk) (hC : rq_C ln st ty ed fr sp go tk en ch ps pg cf ct la gr cr ne nl oe ol fl tn N) (hS : rd_Safe le fm tt ps pg fr sp go zs) (hc : c < 32)
    (hA : rq_ask ln fm tt le mk wn pc ph pe st ed fr go ps pg j c) (hs : s = rq_as ln (rq_nx wn ed go c) (ps c)) (hK : rq_cs le ed fr sp go ps zs s c) {A : Nat → Prop} (hM : rq_mh fm tt rk le ed fr ps pg cf ct zs A j s c) :
    rd_Safe le fm tt ps (ru_p pg c s) fr sp go zs := by
  obtain ⟨a1, a2, a3, a4, a5, a6, a7, a8, a9⟩ := hA
  obtain ⟨q1, q2, q3, q4, q5, q6⟩ := rq_psE hC hc a1
  obtain ⟨r1, r2, r3⟩ := rq_asE (p := ps c) a7 (hE.1 _).1 a8.1 q5
  have f1 : fm (rq_nx wn ed go c - 1) = tt (ed c) := by have := a8.2.1; rw [q4] at this; exact this
  refine rd_grant hS hc q2 a3 (by omega) (by rw [q1]; exact a4) (by rw [hs, r2, q1]; exact f1) (by
    rw [hs, r2, q1]
    intro z
    rw [z] at f1 a8
    exact (hE.2.1 _ a8.1).1 f1) rd_nrN (fun a ha => ?_) (fun n0 => ⟨_, rd_nrN, fun b hb => ?_⟩) (fun z => ?_) (fun d hd gd ht => ?_)
  · rcases a9 with z | z
    · omega
    · rw [ha] at z
      rw [hs]; exact z
  · rw [q1]; exact hK.2.2 n0 b hb
  · rw [q1]; exact hK.1 z
  · obtain ⟨d1, _⟩ := rq_pgS hC hd gd
    rw [(rq_psE hC hd d1).1, q1, a2] at ht
    have hb : rq_bd tt ed pg j d := ⟨by omega, ht⟩
    have := hM.1 d hd (Or.inr hb)
    unfold rq_hf rq_ht at this
    rw [if_pos hb, if_pos hb] at this
    exact this
theorem rq_grantC (hE : rq_E ln fm tt le li rk we op mk) (hC : rq_C ln st ty ed fr sp go tk en ch ps pg cf ct la gr cr ne nl oe ol fl tn N) (hc : c < 32) (h2 : st c = 2) (hn : 0 < n) (hn6 : n ≤ 16) (h0 : 0 < ln (n - 1)) :
    rq_C ln st ty ed fr sp go tk en ch ps (ru_p pg c (rq_as ln n (ps c))) cf ct la (ru_p gr c 1) cr (ru_p ne c (n - 1)) (ru_p nl c (if ln (n - 1) = 1 then 0 else la c)) oe ol fl tn N := by
  obtain ⟨q1, q2, q3, q4, q5, q6⟩ := rq_psE hC hc h2
  obtain ⟨r1, r2, r3⟩ := rq_asE (p := ps c) hn (hE.1 _).1 h0 q5
  refine ⟨hC.1, fun d hd => ?_⟩
  obtain ⟨b1, b2, b3, b4, b5⟩ := hC.2 d hd
  rcases Nat.decEq d c with z | z
  · rw [ru_n z, ru_n z, ru_n z, ru_n z]
    exact ⟨b1, b2, b3, b4, b5⟩
  · subst z
    rw [ru_s, ru_s, ru_s, ru_s]
    exact ⟨b1, b2, fun k => absurd h2 k, Or.inr ⟨rfl, r1, r3, by omega⟩, b5⟩
theorem rq_changeS (hC : rq_C ln st ty ed fr sp go tk en ch ps pg cf ct la gr cr ne nl oe ol fl tn N) (hS : rd_Safe le fm tt ps pg fr sp go zs) (hc : c < 32) (h2 : st c = 2) (hm : pg c = 0) (hr : rq_room fr sp ps pg zs (rq_ot (ps c)) c) : rd_Safe le fm tt (ru_p ps c (rq_ot (ps c))) pg fr sp go zs := by
  obtain ⟨q1, q2, q3, q4, q5, q6⟩ := rq_psE hC hc h2
  have b := ((hC.2 c hc).2.1 h2).1
  have o1 : rq_ot (ps c) = 2 * ed c + (1 - la c) + 1 := by rw [b]; exact rq_otE q6
  refine rd_change hS hc q2 hm (by omega) (by omega) (by rw [q1, o1]; exact rd_qE (by omega)) rd_nrN hr.1 rd_nuN hr.2.2 hr.2.1
theorem rq_changeC (hC : rq_C ln st ty ed fr sp go tk en ch ps pg cf ct la gr cr ne nl oe ol fl tn N) (hc : c < 32) (h2 : st c = 2) (hl : ln (ed c) = 2) : rq_C ln st ty ed fr sp go tk en (ru_p ch c (N + 1)) (ru_p ps c (rq_ot (ps c))) pg cf ct (ru_p la c (1 - la c)) gr cr ne nl oe ol fl tn N := by
  obtain ⟨q1, q2, q3, q4, q5, q6⟩ := rq_psE hC hc h2
  have b := ((hC.2 c hc).2.1 h2).1
  have o1 : rq_ot (ps c) = 2 * ed c + (1 - la c) + 1 := by rw [b]; exact rq_otE q6
  refine ⟨fun d => ?_, fun d hd => ?_⟩
  · have a := hC.1 d
    rcases Nat.decEq d c with z | z
    · rw [ru_n z, ru_n z]; exact a
    · subst z
      rw [ru_s, ru_s]
      omega
  · obtain ⟨b1, b2, b3, b4, b5⟩ := hC.2 d hd
    rcases Nat.decEq d c with z | z
    · rw [ru_n z, ru_n z]
      exact ⟨b1, b2, b3, b4, b5⟩
    · subst z
      rw [ru_s, ru_s]
      exact ⟨b1, fun _ => ⟨o1, by omega⟩, fun k => absurd h2 k, b4, b5⟩
theorem rq_enterS (hE : rq_E ln fm tt le li rk we op mk) (hS : rd_Safe le fm tt ps pg fr sp go zs) {e l : Nat} (hl : l ≤ 1) (he : 0 < ln e) (hc : c < 32) (c0 : ps c = 0) (hg : ∀ d, d < 32 → pg d ≠ 2 * e + l + 1) (hz : 3 ≤ zs c ∧ zs c ≤ 8)
    (hb : ∀ a, rd_nr ps fr (2 * e + l + 1) 0 32 = a + 1 → zs c + zs a + 1 ≤ fr a) : rd_Safe le fm tt (ru_p ps c (2 * e + l + 1)) pg (ru_p fr c (zs c)) (ru_p sp c 0) go zs :=
  rd_enter hS hc c0 (by omega) hg (by omega) (by rw [rd_qE hl]; have := (hE.2.1 e he).2.1; omega) rd_nrN hb
theorem rq_enterC (hC : rq_C ln st ty ed fr sp go tk en ch ps pg cf ct la gr cr ne nl oe ol fl tn N) (hc : c < 32) (h1 : st c = 1) {l z : Nat} (hl : l < ln (ed c)) (hl1 : l ≤ 1) (hz : z ≤ 8) : rq_C ln (ru_p st c 2) ty ed (ru_p fr c z) (ru_p sp c 0) go tk (ru_p en c N) ch (ru_p ps c (2 * ed c + l + 1)) pg cf ct (ru_p la c l) gr (ru_p cr c 0) ne nl oe ol fl tn N := by
  refine ⟨fun d => ?_, fun d hd => ?_⟩
  · have a := hC.1 d
    rcases Nat.decEq d c with z | z
    · rw [ru_n z, ru_n z, ru_n z, ru_n z, ru_n z]; exact a
    · subst z
      rw [ru_s, ru_s, ru_s, ru_s, ru_s]
      omega
  · obtain ⟨b1, b2, b3, b4, b5⟩ := hC.2 d hd
    rcases Nat.decEq d c with z | z
    · rw [ru_n z, ru_n z, ru_n z, ru_n z]
      exact ⟨b1, b2, b3, b4, b5⟩
    · subst z
      obtain ⟨c1, c2, c3⟩ := b3 (by omega)
      rw [ru_s, ru_s, ru_s, ru_s]
      refine ⟨fun _ => b1 (by omega), fun _ => ⟨rfl, hl⟩, fun k => absurd rfl k, b4, fun _ => Or.inl ⟨c3, rfl⟩⟩
end
