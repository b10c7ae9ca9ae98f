/-! moves between rows, over the state -/
theorem pO_fit {D : Ad} {S : Sx} {kf x kd : Int32} (h : fitS S kf x kd) : pO D kf x = pO D kd x := by
  unfold pO
  rcases h with h | ⟨h1, h2⟩ | ⟨h1, h2⟩
  · rw [if_pos h, if_pos h]
  · rw [h1, h2]
  · have : ¬ kd = 2 := by
      rcases h2 with h | h | h
      · rw [h]; decide
      · rw [h.1]; decide
      · rw [h.1]; decide
    rw [if_neg h1, if_neg this]
theorem cpy_pO {D : Ad} {S : Sx} {kf kd : Int32} {f g : Nat → Int32} {i j n : Nat} (h : ∀ k, k < n → fitS S kf (f (i + k)) kd) : va_cpy (fun k => pO D kf (f k)) (fun k => pO D kd (g k)) i j n = fun k => pO D kd (va_cpy f g i j n k) := by
  funext k
  unfold va_cpy
  by_cases hk : j ≤ k ∧ k < j + n
  · rw [if_pos hk, if_pos hk]
    exact pO_fit (h (k - j) (by omega))
  · rw [if_neg hk, if_neg hk]
theorem cpy_ini {D : Ad} {kd : Int32} {f : Nat → Int32} {i n : Nat} (hk : ¬ isN kd) : va_cpy (fun k => pO D kd (f k)) (fun _ => none) i 0 n = fun k => pO D kd (va_cpy f (ini kd) i 0 n k) := by
  funext k
  unfold va_cpy
  by_cases h : 0 ≤ k ∧ k < 0 + n
  · rw [if_pos h, if_pos h]
  · rw [if_neg h, if_neg h, ini_p hk]; exact pO_m1.symm
theorem cpy_one {f g : Nat → Int32} {i j : Nat} : va_cpy f g i j 1 = upd g j (f i) := by
  funext k
  unfold va_cpy upd
  by_cases h : k = j
  · subst h; rw [if_pos (by omega), if_pos rfl]; simp
  · rw [if_neg (by omega), if_neg h]
/-- another content for a row -/
theorem Wf.set {S : Sx} (hW : Wf S) {v : Int32} (hv : vR S v) {f : Nat → Int32} (h2 : kdv S v = 2 → ∀ k, f k = -1 ∨ (vR S (f k) ∧ kdv S (f k) = 1)) (h3 : 3 ≤ kdv S v → ∀ k, f k = -1 ∨ vT S (f k)) : Wf (uRow S (ix v) f) := by
  obtain ⟨a1, a2, a3, a4⟩ := hW
  have e1 : kdv S v = sKd S (ix v) := by unfold kdv; rw [if_neg hv.1]
  rw [e1] at h2 h3
  refine ⟨a1, fun r hr => ?_, a3, a4⟩
  obtain ⟨b1, b2, b3, b4⟩ := a2 r hr
  refine ⟨b1, b2, fun hk k => ?_, fun hk k => ?_⟩
  · by_cases e : r = ix v
    · subst e
      rw [show sIt (uRow S (ix v) f) (ix v) = f by simp [sIt, uRow, va_up]]
      rcases h2 hk k with q | ⟨q1, q2⟩
      · exact Or.inl q
      · refine Or.inr ⟨q1, ?_⟩
        unfold kdv at q2
        rwa [if_neg q1.1] at q2
    · rw [show sIt (uRow S (ix v) f) r = sIt S r by simp [sIt, uRow, va_up, e]]
      exact b3 hk k
  · by_cases e : r = ix v
    · subst e
      rw [show sIt (uRow S (ix v) f) (ix v) = f by simp [sIt, uRow, va_up]]
      exact h3 hk k
    · rw [show sIt (uRow S (ix v) f) r = sIt S r by simp [sIt, uRow, va_up, e]]
      exact b4 hk k
theorem isN_lt {k : Int32} (h : isN k) : ¬ 3 ≤ k ∧ ¬ k = 2 := by rcases h with h | h <;> rw [h] <;> decide
theorem kd_ge3 {S : Sx} (hW : Wf S) {v : Int32} (hv : vR S v) (h1 : ¬ isN (kdv S v)) (h2 : ¬ kdv S v = 2) : 3 ≤ kdv S v := by
  rcases kd_cases (hW.kd (Or.inl hv)).1 (hW.kd (Or.inl hv)).2 with q | q | q | q | q | q | q <;> rw [q] at h1 h2 ⊢ <;> first | decide | exact absurd (Or.inl rfl) h1 | exact absurd (Or.inr rfl) h1 | exact absurd rfl h2
/-- items that came from another row -/
theorem Wf.got {S : Sx} (hW : Wf S) {u v : Int32} (hu : vR S u) (hv : vR S v) (hm : mayT (kdv S v) (kdv S u)) {f : Nat → Int32} (h : ∀ k, f k = itv S v k ∨ ∃ j, f k = itv S u j ∧ (¬ isN (kdv S v) → fitS S (kdv S u) (itv S u j) (kdv S v))) : Wf (uRow S (ix v) f) := by
  obtain ⟨-, -, c1, c2⟩ := hW.row hv
  obtain ⟨-, -, d1, d2⟩ := hW.row hu
  refine hW.set hv (fun hk k => ?_) (fun hk k => ?_)
  · rcases h k with q | ⟨j, q, hf⟩
    · rw [q]; exact c1 hk k
    · rw [q]
      have hn : ¬ isN (kdv S v) := fun e => (isN_lt e).2 hk
      rcases hf hn with e | ⟨e1, -⟩ | ⟨-, e2⟩
      · exact Or.inl e
      · exact d1 e1 j
      · rw [hk] at e2
        rcases e2 with e2 | ⟨e2, -⟩ | ⟨e2, -⟩ <;> exact absurd e2 (by decide)
  · rcases h k with q | ⟨j, q, hf⟩
    · rw [q]; exact c2 hk k
    · rw [q]
      have hn : ¬ isN (kdv S v) := fun e => (isN_lt e).1 hk
      rcases hf hn with e | ⟨e1, e2⟩ | ⟨e1, -⟩
      · exact Or.inl e
      · rw [e2] at hk; exact absurd hk (by decide)
      · have hun : ¬ isN (kdv S u) := by
          rcases hm.2 with e | ⟨-, e⟩
          · rw [← e]; exact hn
          · exact e
        exact d2 (kd_ge3 hW hu hun e1) j
theorem may_isN {kd kf : Int32} (h : mayT kd kf) (hk : isN kd) : isN kf := by
  rcases h.2 with e | ⟨e, -⟩
  · rw [← e]; exact hk
  · exact absurd hk e
theorem may_notN {kd kf : Int32} (h : mayT kd kf) (hk : ¬ isN kd) : ¬ isN kf := by
  rcases h.2 with e | ⟨-, e⟩
  · rw [← e]; exact hk
  · exact e
theorem mvN_spec {S : Sx} {u v : Int32} {i n : Nat} : mvN S u v i n ≤ n ∧ (¬ isN (kdv S v) → (∀ k, k < mvN S u v i n → fitS S (kdv S u) (itv S u (i + k)) (kdv S v)) ∧ (mvN S u v i n < n → ¬ fitS S (kdv S u) (itv S u (i + mvN S u v i n)) (kdv S v))) := by
  unfold mvN
  by_cases hk : isN (kdv S v)
  · rw [if_pos hk]; exact ⟨Nat.le_refl _, fun h => absurd hk h⟩
  · rw [if_neg hk]
    obtain ⟨h1, h2, h3, h4⟩ := preN_spec (fitB S (kdv S u) (kdv S v) (itv S u) i) n 0
    refine ⟨by omega, fun _ => ⟨fun k q => ?_, fun q => ?_⟩⟩
    · exact of_decide_eq_true (h3 k (Nat.zero_le _) q)
    · exact of_decide_eq_false (h4 (by omega))
theorem mvN_one {S : Sx} {u v : Int32} {i : Nat} : 1 ≤ mvN S u v i 1 ↔ (isN (kdv S v) ∨ fitS S (kdv S u) (itv S u i) (kdv S v)) := by
  obtain ⟨h1, h2⟩ := mvN_spec (S := S) (u := u) (v := v) (i := i) (n := 1)
  constructor
  · intro h
    by_cases hk : isN (kdv S v)
    · exact Or.inl hk
    · exact Or.inr ((h2 hk).1 0 (by omega))
  · intro h
    by_cases hk : isN (kdv S v)
    · unfold mvN; rw [if_pos hk]; exact Nat.le_refl _
    · have hf := h.resolve_left hk
      by_cases q : mvN S u v i 1 < 1
      · have e : mvN S u v i 1 = 0 := by omega
        have := (h2 hk).2 q
        rw [e] at this
        exact absurd hf this
      · omega
theorem cR_take (l : Launch) (E : En) (A : Nat → Prop) (w : Wd) {S : Sx} {D : Ad} {u v : Int32} (i j n : Nat) (hW : Wf S) (hR : Rp E S D w) (hu : vR S u) (hv : vR S v) (hm : mayT (kdv S v) (kdv S u)) (h4 : i + n ≤ lnv S u) (h5 : j + n ≤ lnv S v) (hf : ¬ isN (kdv S v) → ∀ k, k < n → fitS S (kdv S u) (itv S u (i + k)) (kdv S v)) :
    Ct l yX1_take wsX1_take ({ frames := 1, cells := 0, slots := 0, locals := 20 } : Room) E A w [.ref (aR D v), .ref (aR D u), .int (nI i), .int (nI j), .int (nI n)] (fun r w' => r = none ∧ Rp E (uRow S (ix v) (va_cpy (itv S u) (itv S v) i j n)) D w') 0 0 := by
  have l1 := hW.ln (Or.inl hu)
  have l2 := hW.ln (Or.inl hv)
  by_cases hk : isN (kdv S v)
  · refine Ct.mono (cc_X1_take_n l E A w i j n (by omega) (by omega) h4 h5 hk (hR.2.2.1 _ (Or.inl hv)).1 (hR.2.2.1 _ (Or.inl hu)).1 (hR.num (Or.inl hv) hk) (hR.num (Or.inl hu) (may_isN hm hk))) (fun r w' h => ⟨h.1, ?_⟩)
    rw [← h.2]
    exact hR.numW hv hk _
  · refine Ct.mono (cc_X1_take_p l E A w i j n (by omega) (by omega) h4 h5 hk (hR.2.2.1 _ (Or.inl hv)).1 (hR.2.2.1 _ (Or.inl hu)).1 (hR.par (Or.inl hv) hk) (hR.par (Or.inl hu) (may_notN hm hk)) (fun k _ => hR.ok hW hu (may_notN hm hk) (i + k))) (fun r w' h => ⟨h.1, ?_⟩)
    rw [← h.2]
    exact hR.parW hv hk _ (cpy_pO (hf hk))
theorem cR_count (l : Launch) (E : En) (A : Nat → Prop) (w : Wd) {S : Sx} {D : Ad} {u v : Int32} (i n : Nat) (hW : Wf S) (hR : Rp E S D w) (hu : vR S u) (hv : vR S v) (hm : mayT (kdv S v) (kdv S u)) (h4 : i + n ≤ lnv S u) :
    Ct l yX1_countTaken wsX1_countTaken ({ frames := 2, cells := 0, slots := 0, locals := 42 } : Room) E A w [.ref (aR D v), .ref (aR D u), .int (nI i), .int (nI n)] (fun r w' => w = w' ∧ r = some (.int (nI (mvN S u v i n)))) 0 0 := by
  have l1 := hW.ln (Or.inl hu)
  by_cases hk : isN (kdv S v)
  · refine Ct.mono (cc_X1_countTaken_n l E A w (aR D u) (nI i) (nI n) hk (hR.2.2.1 _ (Or.inl hv)).1) (fun r w' h => ⟨h.1, ?_⟩)
    rw [h.2]; unfold mvN; rw [if_pos hk]
  · refine Ct.mono (cc_X1_countTaken_p l E A w i n (by omega) h4 hk (hR.2.2.1 _ (Or.inl hv)).1 (hR.2.2.1 _ (Or.inl hu)).1 (hR.par (Or.inl hu) (may_notN hm hk)) (fun k _ => hR.ok hW hu (may_notN hm hk) (i + k))) (fun r w' h => ⟨h.1, ?_⟩)
    obtain ⟨-, cn, hr, h1, h2, h3⟩ := h
    rw [hr]
    have e : cn = mvN S u v i n := by
      unfold mvN
      rw [if_neg hk]
      refine preN_uniq h1 (fun k q => ?_) (fun q => ?_)
      · exact decide_eq_true ((hR.fit hW hu (may_notN hm hk) (i + k) (kdv S v)).mp (h2 k q))
      · exact decide_eq_false (fun e => h3 q ((hR.fit hW hu (may_notN hm hk) (i + cn) (kdv S v)).mpr e))
    rw [e]
theorem cR_cut (l : Launch) (E : En) (A : Nat → Prop) (w : Wd) {S : Sx} {D : Ad} {u : Int32} (i n : Nat) (hW : Wf S) (hR : Rp E S D w) (hb : sNr S < 512) (hu : vR S u) (h4 : i + n ≤ lnv S u) :
    Ct l yX1_cut wsX1_cut ({ frames := 3, cells := 3, slots := 44, locals := 63 } : Room) E A w [.ref (aR D u), .int (nI i), .int (nI n)] (fun r w' => ∃ q na qa, r = some (.ref q) ∧ Rp E (uNew S (kdv S u) n (va_cpy (itv S u) (ini (kdv S u)) i 0 n)) (adR D (nI (sNr S)) q na qa) w' ∧ vR (uNew S (kdv S u) n (va_cpy (itv S u) (ini (kdv S u)) i 0 n)) (nI (sNr S)) ∧ lnv (uNew S (kdv S u) n (va_cpy (itv S u) (ini (kdv S u)) i 0 n)) (nI (sNr S)) = n ∧ aR (adR D (nI (sNr S)) q na qa) (nI (sNr S)) = q) 3 44 := by
  have l1 := hW.ln (Or.inl hu)
  have hfi : kdv S u = 2 → ∀ k, va_cpy (itv S u) (ini (kdv S u)) i 0 n k = -1 ∨ vR S (va_cpy (itv S u) (ini (kdv S u)) i 0 n k) := by
    intro e k
    unfold va_cpy
    by_cases h : 0 ≤ k ∧ k < 0 + n
    · rw [if_pos h]
      rcases (hW.row hu).2.2.1 e (i + (k - 0)) with q | q
      · exact Or.inl q
      · exact Or.inr q.1
    · rw [if_neg h, ini_p (by rw [e]; decide)]; exact Or.inl rfl
  by_cases hk : isN (kdv S u)
  · refine Ct.mono (cc_X1_cut_n l E A w i n (by omega) (by omega) h4 hk (hR.2.2.1 _ (Or.inl hu)).1 (hR.num (Or.inl hu) hk)) (fun r w' h => ?_)
    obtain ⟨q, na, qa, hr, hN⟩ := h
    obtain ⟨g1, g2, g3, g4⟩ := hR.new hW hb (NewRow.n hk (by rw [← ini_n hk] at hN; exact hN)) hfi
    exact ⟨q, na, qa, hr, g1, g2, g3, g4⟩
  · refine Ct.mono (cc_X1_cut_p l E A w i n (by omega) (by omega) h4 hk (hR.2.2.1 _ (Or.inl hu)).1 (hR.par (Or.inl hu) hk) (fun k _ => hR.ok hW hu hk (i + k))) (fun r w' h => ?_)
    obtain ⟨q, na, qa, hr, hN⟩ := h
    obtain ⟨g1, g2, g3, g4⟩ := hR.new hW hb (NewRow.p hk (cpy_ini hk) hN) hfi
    exact ⟨q, na, qa, hr, g1, g2, g3, g4⟩
theorem rng_yes {n : Nat} {i k : Int32} (hn : n ≤ 40) (h : ¬ i < 0 ∧ ¬ k < 0 ∧ ¬ nI n < i ∧ ¬ nI n - i < k) : rg n i k := by
  obtain ⟨h1, h2, h3, h4⟩ := h
  obtain ⟨a, ha, rfl⟩ := nI_of h1
  obtain ⟨b, hb, rfl⟩ := nI_of h2
  have h3' : a ≤ n := Nat.not_lt.mp fun q => h3 ((nI_ltI (by omega) ha).mpr q)
  rw [pk_sub h3'] at h4
  have h4' : b ≤ n - a := Nat.not_lt.mp fun q => h4 ((nI_ltI (by omega) hb).mpr q)
  have e1 := nI_toInt ha
  have e2 := nI_toInt hb
  exact ⟨by rw [e1]; omega, by rw [e2]; omega, by rw [e1, e2]; omega⟩
theorem rng_no {n : Nat} {i k : Int32} (hn : n ≤ 40) (h : ¬ (¬ i < 0 ∧ ¬ k < 0 ∧ ¬ nI n < i ∧ ¬ nI n - i < k)) : ¬ rg n i k := by
  rintro ⟨h1, h2, h3⟩
  have g1 : ¬ i < 0 := by rw [Int32.lt_iff_toInt_lt]; simp; exact h1
  have g2 : ¬ k < 0 := by rw [Int32.lt_iff_toInt_lt]; simp; exact h2
  obtain ⟨a, ha, rfl⟩ := nI_of g1
  obtain ⟨b, hb, rfl⟩ := nI_of g2
  rw [nI_toInt ha, nI_toInt hb] at h3
  refine h ⟨g1, g2, fun q => ?_, fun q => ?_⟩
  · have := (nI_ltI (by omega) ha).mp q
    omega
  · rw [pk_sub (by omega)] at q
    have := (nI_ltI (by omega) hb).mp q
    omega
theorem rg_nat {n : Nat} {i k : Int32} (hn : n ≤ 40) (h : rg n i k) : ∃ a b : Nat, a + b ≤ n ∧ i = nI a ∧ k = nI b := by
  obtain ⟨h1, h2, h3⟩ := h
  have g1 : ¬ i < 0 := by rw [Int32.lt_iff_toInt_lt]; simp; exact h1
  have g2 : ¬ k < 0 := by rw [Int32.lt_iff_toInt_lt]; simp; exact h2
  obtain ⟨a, ha, rfl⟩ := nI_of g1
  obtain ⟨b, hb, rfl⟩ := nI_of g2
  rw [nI_toInt ha, nI_toInt hb] at h3
  exact ⟨a, b, by omega, rfl, rfl⟩
