/-! ===== the reference: loops with an edge, with a mark ===== -/
section Rlp82
variable {e : Nat} {I J : IM} {Q : Post} {V : Vw} {H : Hw} {b : Int}
theorem nL40 (hG : Good V) : nL V ≤ 40 := by have := nE40 hG; have := lk_rk V 144; unfold nL nE at *; omega
/-- the loop of that number, behind a place in the row of pairs -/
theorem lk_at (hG : Good V) {i K : Nat} (hi : i < nL V) (hK : lk V K = i) : ∃ k : Nat, K ≤ k ∧ k < 144 ∧ isL V k = true ∧ lk V k = i ∧ (∀ j : Nat, K ≤ j → j < k → isL V j = false) ∧ lk V (k + 1) = i + 1 := by
  obtain ⟨k, hk, hE, hki⟩ := ln_next hi
  have hKk : K ≤ k := by
    rcases Nat.lt_or_ge k K with h | h
    · have := ct_lt (isL V) h hE
      unfold lk at *; omega
    · exact h
  exact ⟨k, hKk, hk, hE, hki, lk_gap (by omega), by rw [lk_succ, if_pos hE]; omega⟩
theorem sp_X11_hasEdge (hG : Good V) (hW : Rrw I 201 0 V) (hR : Rk I V) {k : Nat} (hk : k < 144) (hL : isL V k = true) {j : Int} (hj : 0 ≤ j ∧ j < 144)
    (hQ : ∀ I' : IM, Wf I I' → Q (.inl (some (.int (i32 (if inL V k j = true then 1 else 0))))) (ME e I' J)) : SX11_hasEdge [.ref 200, .int (i32 (lk V k)), .int (i32 j)] (ME e I J) Q := by
  refine x_in (Nat.le_of_ble_eq_true rfl) ?_
  dsimp only [bX11_hasEdge, bX11_hasEdge_0]
  ((try rw [show (1 : Int32) = i32 (1) from rfl]); (try simp only [i32_add, i32_sub, i32_mul, i32_neg]))
  have hE := (isL_E hL).1
  have D := lD_ok hG hE
  have hc := cE_01 hG hL j (lD V k + 1) (Nat.le_refl _)
  have yes : (∃ i : Nat, i ≤ lD V k ∧ lE V k i = j) → inL V k j = true := fun ⟨i, h1, h2⟩ => by
    unfold inL
    rcases hc with h | h
    · exact absurd h2 (h.2 i (by omega))
    · exact decide_eq_true h.1
  have no : (∀ i : Nat, i ≤ lD V k → lE V k i ≠ j) → ¬ inL V k j = true := fun h => by
    unfold inL
    rcases hc with h1 | ⟨_, i, h1, h2⟩
    · rw [h1.1]; decide
    · exact absurd h2 (h i (by omega))
  refine x_ob rfl (x_cI (sp_X11_loopEdge hG hR hk hL ?_))
  refine x_eq (by omega) (by omega) (fun h => ?_) (fun h0 => ?_)
  · have hq := hQ I (Wf.refl I)
    rw [if_pos (yes ⟨0, by omega, h⟩)] at hq
    exact x_rZ (v := 1) (by omega) hq
  refine x_ob rfl (x_cV (sp_X11_goesLoop hG hW hR hk hL fun I1 f1 y1 => ?_))
  dsimp only
  refine x_for (lD V k) (fun i av μ => av = [.ref 200, .int (i32 j), .int (i32 ((i : Int) + 1))] ∧ μ = ME e I1 J ∧ ∀ t : Nat, t ≤ i → lE V k t ≠ j) ?_ ?_ (Nat.zero_le _) ⟨by simp, rfl, fun t ht => by rw [show t = 0 by omega]; exact fun q => h0 q⟩
  · rintro i av μ hi ⟨rfl, rfl, hno⟩ hJ
    dsimp only [bX11_hasEdge, bX11_hasEdge_1]
    ((try rw [show (1 : Int32) = i32 (1) from rfl]); (try simp only [i32_add, i32_sub, i32_mul, i32_neg]))
    have p0 := pth_m hG hE i (by omega)
    have p1 := pth_m hG hE (i + 1) (by omega)
    have m := hG.1
    refine x_gI rfl ?_
    rw [show I1 200 ((17 : Nat) : Int) = (lD V k : Int) + 1 by rw [D.1]; exact y1.1]
    refine x_le (by omega) (by omega) (fun h => by omega) (fun _ => ?_)
    refine x_gR rfl rfl (x_aI rfl (by omega) (by omega) (by omega) ?_)
    rw [show (i : Int) + 1 - 1 = i by omega, y1.2 i (by omega)]
    refine x_gR rfl rfl (x_aI rfl (by omega) (by omega) (by omega) ?_)
    rw [show (i : Int) + 1 = ((i + 1 : Nat) : Int) by omega, y1.2 (i + 1) (by omega)]
    refine x_cI (sp_X11_pairOf (by omega) (by omega) ?_)
    have pg : lE V k (i + 1) = pq (pth V (k / 12) (k % 12) i) (pth V (k / 12) (k % 12) (i + 1)) := rfl
    have pe := (lE_ok hG hL (i := i + 1) (by omega)).1
    have pr := gd_E hG (isE_iff.mp pe)
    dsimp only
    rw [← pg]
    refine x_eq (by omega) (by omega) (fun h => ?_) (fun h => ?_)
    · have hq := hQ I1 f1
      rw [if_pos (yes ⟨i + 1, by omega, h⟩)] at hq
      exact x_rZ (v := 1) (by omega) hq
    · exact hJ _ _ ⟨by simp only [Int.cast_ofNat_Int, Int.natCast_add, Int.toNat_natCast, i32_add, i32_sub, i32_mul, i32_neg, i32_lit, i64_add, i64_sub, i64_mul, i64_neg, i64_lit, i64_int, Int.natCast_one], rfl, fun t ht => by
        by_cases e : t = i + 1
        · rw [e]; exact h
        · exact hno t (by omega)⟩
  · rintro av μ ⟨rfl, rfl, hno⟩
    dsimp only [bX11_hasEdge, bX11_hasEdge_1]
    ((try rw [show (0 : Int32) = i32 (0) from rfl]); (try simp only [i32_add, i32_sub, i32_mul, i32_neg]))
    refine x_gI rfl ?_
    rw [show I1 200 ((17 : Nat) : Int) = (lD V k : Int) + 1 by rw [D.1]; exact y1.1]
    have hq := hQ I1 f1
    rw [if_neg (no hno)] at hq
    exact x_le (by omega) (by omega) (fun _ => x_rZ (v := 0) (by omega) hq) (fun h => by omega)
/-- all loops with an edge, or those that don't close -/
noncomputable def lwo (V : Vw) (lim j v : Int) (K : Nat) : Nat := if v = 0 then lwc V j K else low V lim j K
theorem lwo_flat {lim j v : Int} {K K' : Nat} (h : K ≤ K') (hn : ∀ j : Nat, K ≤ j → j < K' → isL V j = false) : lwo V lim j v K' = lwo V lim j v K := by
  unfold lwo lwc low
  split
  · exact ct_flat h fun j h1 h2 => by rw [hn j h1 h2]; rfl
  · exact ct_flat h fun j h1 h2 => by rw [hn j h1 h2]; rfl
theorem lwo_le (lim j v : Int) (K : Nat) : lwo V lim j v K ≤ K := by
  unfold lwo lwc low
  split <;> exact ct_le _ _
theorem sp_X11_loopsWith (hG : Good V) (hW : Rrw I 201 0 V) (hR : Rk I V) {j v : Int} (hj : 0 ≤ j ∧ j < 144) (hv : v = 0 ∨ v = 1)
    (hQ : ∀ I' : IM, Wf I I' → Q (.inl (some (.int (i32 (lwo V (vS V 3) j v 144 : Nat))))) (ME e I' J)) : SX11_loopsWith [.ref 200, .int (i32 j), .int (i32 v)] (ME e I J) Q := by
  refine x_in (Nat.le_of_ble_eq_true rfl) ?_
  dsimp only [bX11_loopsWith, bX11_loopsWith_0]
  ((try rw [show (0 : Int32) = i32 (0) from rfl]); (try simp only [i32_add, i32_sub, i32_mul, i32_neg]))
  have h40 := nL40 hG
  refine x_for (nL V) (fun i av μ => ∃ (I' : IM) (K : Nat), K ≤ 144 ∧ lk V K = i ∧ av = [.ref 200, .int (i32 j), .int (i32 v), .int (i32 (lwo V (vS V 3) j v K : Nat)), .int (i32 i)] ∧ μ = ME e I' J ∧ Wf I I') ?_ ?_ (Nat.zero_le _) ⟨I, 0, by omega, rfl, by rw [show lwo V (vS V 3) j v 0 = 0 by unfold lwo lwc low; split <;> rfl]; rfl, rfl, Wf.refl I⟩
  · rintro i av μ hi ⟨I', K, hK, hKi, rfl, rfl, hf⟩ hJ
    dsimp only [bX11_loopsWith, bX11_loopsWith_1]
    ((try rw [show (0 : Int32) = i32 (0) from rfl]); (try rw [show (1 : Int32) = i32 (1) from rfl]); (try simp only [i32_add, i32_sub, i32_mul, i32_neg]))
    obtain ⟨k, hKk, hk, hL, hki, gap, hk1⟩ := lk_at hG hi hKi
    rw [← lwo_flat hKk gap]
    refine x_ob rfl (x_cI (sp_X11_loops hG (hf.rk hR) (x_le (by omega) (by omega) (fun h => by omega) (fun _ => ?_))))
    rw [← hki]
    have lb := lwo_le (V := V) (vS V 3) j v k
    have hs : lwo V (vS V 3) j v (k + 1) = lwo V (vS V 3) j v k + (if inL V k j = true ∧ (v = 0 ∨ ¬ clo V (vS V 3) k = true) then 1 else 0) := by
      unfold lwo lwc low
      rcases hv with rfl | rfl
      · simp [ct, hL]
      · simp [ct, hL]
    have go : ∀ (I2 : IM) (x : Nat), Wf I' I2 → (if inL V k j = true ∧ (v = 0 ∨ ¬ clo V (vS V 3) k = true) then 1 else 0) = x → fx bX11_loopsWith 1 [.ref 200, .int (i32 j), .int (i32 v), .int (i32 ((lwo V (vS V 3) j v k : Nat) + (x : Int))), .int (i32 ((lk V k : Int) + 1))] (ME e I2 J) Q := fun I2 x f2 hx => by
      rw [hx] at hs
      exact hJ _ _ ⟨I2, k + 1, by omega, hk1, by rw [hs, ← hki]; simp only [Int.cast_ofNat_Int, Int.natCast_add, Int.toNat_natCast, i32_add, i32_sub, i32_mul, i32_neg, i32_lit, i64_add, i64_sub, i64_mul, i64_neg, i64_lit, i64_int, Int.natCast_one], rfl, hf.trans f2⟩
    refine x_ob rfl (x_cI (sp_X11_hasEdge hG (hf.rw' hW) (hf.rk hR) hk hL hj fun I2 f2 => ?_))
    dsimp only
    by_cases hin : inL V k j = true
    · rw [if_pos hin]
      refine x_eq (by omega) (by omega) (fun h => by omega) (fun _ => ?_)
      refine x_eq (by omega) (by omega) (fun hv0 => x_lI ?_) (fun hv0 => ?_)
      · have := go I2 1 f2 (by rw [if_pos ⟨hin, Or.inl hv0⟩])
        exact this
      · refine x_ob rfl (x_cI (sp_X11_closes hG ((hf.trans f2).rw' hW) ((hf.trans f2).rk hR) hk hL fun I3 f3 => ?_))
        dsimp only
        by_cases hc : clo V (vS V 3) k = true
        · rw [if_pos hc]
          refine x_eq (by omega) (by omega) (fun h => by omega) (fun _ => ?_)
          have := go I3 0 (f2.trans f3) (by rw [if_neg (fun q => q.2.elim hv0 (fun h => h hc))])
          simpa using this
        · rw [if_neg hc]
          refine x_eq (by omega) (by omega) (fun _ => x_lI ?_) (fun h => absurd rfl h)
          have := go I3 1 (f2.trans f3) (by rw [if_pos ⟨hin, Or.inr hc⟩])
          exact this
    · rw [if_neg hin]
      refine x_eq (by omega) (by omega) (fun _ => ?_) (fun h => absurd rfl h)
      have := go I2 0 f2 (by rw [if_neg (fun q => hin q.1)])
      simpa using this
  · rintro av μ ⟨I', K, hK, hKi, rfl, rfl, hf⟩
    dsimp only [bX11_loopsWith, bX11_loopsWith_1]
    have hq := hQ I' hf
    rw [lwo_flat hK (lk_gap hKi.symm)] at hq
    exact x_ob rfl (x_cI (sp_X11_loops hG (hf.rk hR) (x_le (by omega) (by omega) (fun _ => x_rI hq) (fun h => by omega))))
/-- a mark stands in a loop once at most -/
theorem lM_inj (hG : Good V) {k : Int} (hE : isE V k = true) {i j : Nat} (hi : i ≤ lD V k) (hj : j ≤ lD V k) (h : lM V k i = lM V k j) : i = j := by
  have D := lD_ok hG hE
  have J := E_jn hG hE
  have pe := pth_end hG J.2.1 J.1 J.2.2 (n := lD V k) D.1
  cases i with
  | zero =>
    cases j with
    | zero => rfl
    | succ j =>
      have := pth_inj hG J.2.1 J.1 J.2.2 (i := lD V k) (j := j) (by omega) (by omega) (by rw [pe]; exact h)
      omega
  | succ i =>
    cases j with
    | zero =>
      have := pth_inj hG J.2.1 J.1 J.2.2 (i := i) (j := lD V k) (by omega) (by omega) (by rw [pe]; exact h)
      omega
    | succ j =>
      have := pth_inj hG J.2.1 J.1 J.2.2 (i := i) (j := j) (by omega) (by omega) h
      omega
theorem cM_01 (hG : Good V) {k : Int} (hE : isE V k = true) (b : Int) : ∀ n : Nat, n ≤ lD V k + 1 → (cM V k b n = 0 ∧ ∀ i : Nat, i < n → lM V k i ≠ b) ∨ (cM V k b n = 1 ∧ ∃ i : Nat, i < n ∧ lM V k i = b) := by
  intro n
  induction n with
  | zero => intro _; exact Or.inl ⟨rfl, fun i h => by omega⟩
  | succ n ih =>
    intro hn
    simp only [cM]
    by_cases h : lM V k n = b
    · rw [if_pos h]
      rcases ih (by omega) with h1 | ⟨h1, i, h2, h3⟩
      · exact Or.inr ⟨by omega, n, by omega, h⟩
      · have := lM_inj hG hE (i := i) (j := n) (by omega) (by omega) (by rw [h3, h])
        omega
    · rw [if_neg h]
      rcases ih (by omega) with h1 | ⟨h1, i, h2, h3⟩
      · refine Or.inl ⟨by omega, fun i hi => ?_⟩
        by_cases e : i = n
        · rw [e]; exact h
        · exact h1.2 i (by omega)
      · exact Or.inr ⟨by omega, i, by omega, h3⟩
theorem sp_X11_hasMark (hG : Good V) (hW : Rrw I 201 0 V) (hR : Rk I V) {k : Nat} (hk : k < 144) (hL : isL V k = true) (hb : 0 ≤ b ∧ b < 12)
    (hQ : ∀ I' : IM, Wf I I' → Q (.inl (some (.int (i32 (cM V k b (lD V k + 1)))))) (ME e I' J)) : SX11_hasMark [.ref 200, .int (i32 (lk V k)), .int (i32 b)] (ME e I J) Q := by
  refine x_in (Nat.le_of_ble_eq_true rfl) ?_
  dsimp only [bX11_hasMark, bX11_hasMark_0]
  ((try rw [show (0 : Int32) = i32 (0) from rfl]); (try simp only [i32_add, i32_sub, i32_mul, i32_neg]))
  have hE := (isL_E hL).1
  have D := lD_ok hG hE
  have Jn := E_jn hG hE
  have pe := pth_end hG Jn.2.1 Jn.1 Jn.2.2 (n := lD V k) D.1
  have hc := cM_01 hG hE b (lD V k + 1) (Nat.le_refl _)
  have yes : (∃ i : Nat, i ≤ lD V k ∧ pth V ((k : Int) / 12) ((k : Int) % 12) i = b) → cM V k b (lD V k + 1) = 1 := fun ⟨i, h1, h2⟩ => by
    rcases hc with h | h
    · exfalso
      by_cases e : i = lD V k
      · refine h.2 0 (by omega) ?_
        rw [← h2, e, pe]; rfl
      · exact h.2 (i + 1) (by omega) h2
    · exact h.1
  have no : (∀ i : Nat, i ≤ lD V k → pth V ((k : Int) / 12) ((k : Int) % 12) i ≠ b) → cM V k b (lD V k + 1) = 0 := fun h => by
    rcases hc with h1 | ⟨_, i, h1, h2⟩
    · exact h1.1
    · exfalso
      cases i with
      | zero => exact h (lD V k) (Nat.le_refl _) (by rw [pe]; exact h2)
      | succ i => exact h i (by omega) h2
  refine x_ob rfl (x_cV (sp_X11_goesLoop hG hW hR hk hL fun I1 f1 y1 => ?_))
  dsimp only
  refine x_for (lD V k + 1) (fun i av μ => av = [.ref 200, .int (i32 b), .int (i32 i)] ∧ μ = ME e I1 J ∧ ∀ t : Nat, t < i → pth V ((k : Int) / 12) ((k : Int) % 12) t ≠ b) ?_ ?_ (Nat.zero_le _) ⟨rfl, rfl, fun t ht => by omega⟩
  · rintro i av μ hi ⟨rfl, rfl, hno⟩ hJ
    dsimp only [bX11_hasMark, bX11_hasMark_1]
    ((try rw [show (1 : Int32) = i32 (1) from rfl]); (try simp only [i32_add, i32_sub, i32_mul, i32_neg]))
    have p0 := pth_m hG hE i (by omega)
    have m := hG.1
    refine x_gI rfl ?_
    rw [show I1 200 ((17 : Nat) : Int) = (lD V k : Int) + 1 by rw [D.1]; exact y1.1]
    refine x_le (by omega) (by omega) (fun h => by omega) (fun _ => ?_)
    refine x_gR rfl rfl (x_aI rfl (by omega) (by omega) (by omega) ?_)
    rw [y1.2 i (by omega)]
    refine x_eq (by omega) (by omega) (fun h => ?_) (fun h => ?_)
    · have hq := hQ I1 f1
      rw [yes ⟨i, by omega, h⟩] at hq
      exact x_rZ (v := 1) (by omega) hq
    · exact hJ _ _ ⟨by simp only [Int.cast_ofNat_Int, Int.natCast_add, Int.toNat_natCast, i32_add, i32_sub, i32_mul, i32_neg, i32_lit, i64_add, i64_sub, i64_mul, i64_neg, i64_lit, i64_int], rfl, fun t ht => by
        by_cases e : t = i
        · rw [e]; exact h
        · exact hno t (by omega)⟩
  · rintro av μ ⟨rfl, rfl, hno⟩
    dsimp only [bX11_hasMark, bX11_hasMark_1]
    ((try rw [show (0 : Int32) = i32 (0) from rfl]); (try simp only [i32_add, i32_sub, i32_mul, i32_neg]))
    refine x_gI rfl ?_
    rw [show I1 200 ((17 : Nat) : Int) = (lD V k : Int) + 1 by rw [D.1]; exact y1.1]
    have hq := hQ I1 f1
    rw [no (fun i hi => hno i (by omega))] at hq
    exact x_le (by omega) (by omega) (fun _ => x_rZ (v := 0) (by omega) hq) (fun h => by omega)
end Rlp82
