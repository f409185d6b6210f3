/-! ===== the reference: counts ===== -/
def isRt (F : Fo) (x : Int) : Bool := decide (fP F x = x)
theorem isRt_iff {F : Fo} {x : Int} : isRt F x = true ↔ fP F x = x := by unfold isRt; simp
theorem gro_rt {V : Vw} (hG : Good V) : ∀ i : Nat, i ≤ nE V → (∀ x : Int, fP (gro V i) (fP (gro V i) x) = fP (gro V i) x) ∧ (∀ x : Int, 0 ≤ x → x < vm V → 0 ≤ fP (gro V i) x ∧ fP (gro V i) x < vm V) ∧ ct (isRt (gro V i)) (vm V) + ct (fT (gro V i)) 144 = vm V := by
  intro i
  induction i with
  | zero =>
    intro _
    refine ⟨fun x => rfl, fun x a b => ⟨a, b⟩, ?_⟩
    rw [show gro V 0 = fo0 from rfl, ct_nil (p := fT fo0) (fun i _ _ => rfl)]
    have : ∀ n : Nat, ct (isRt fo0) n = n := by
      intro n
      induction n with
      | zero => rfl
      | succ n ih => simp only [ct, ih]; rw [if_pos (isRt_iff.mpr rfl)]
    rw [this]; rfl
  | succ i ih =>
    intro hi
    obtain ⟨h1, h2, h3⟩ := ih (by omega)
    have so1 := (so_ok V).2.1 (i : Int) (by omega) (by omega)
    show (∀ x, fP (stp V (so V i) (gro V i)) _ = _) ∧ _
    have hg : gro V (i + 1) = stp V (so V i) (gro V i) := rfl
    rw [hg]
    have hnt : fP (gro V i) (so V i / 12) ≠ fP (gro V i) (so V i % 12) → fT (gro V i) (so V i) = false := fun _ => by
      cases h : fT (gro V i) (so V i)
      · rfl
      · obtain ⟨t, q1, q2⟩ := gro_T V i _ h
        have := so_inj V (by omega) (by omega) q2
        omega
    generalize so V i = k at *
    have ed := gd_E hG (isE_iff.mp so1.2.2)
    by_cases hj : fP (gro V i) (k / 12) = fP (gro V i) (k % 12)
    · have : stp V k (gro V i) = gro V i := by unfold stp; rw [if_pos hj]
      rw [this]
      exact ⟨h1, h2, h3⟩
    · have e1 : stp V k (gro V i) = take V k (gro V i) := by unfold stp; rw [if_neg hj]
      rw [e1]
      have hP := fP_take V k (gro V i)
      have a1 := h1 (k / 12)
      have b1 := h1 (k % 12)
      have a2 := h2 (k / 12) ed.2.2.2.1 (by omega)
      have b2 := h2 (k % 12) (by omega) (by omega)
      have hT : ct (fT (take V k (gro V i))) 144 = ct (fT (gro V i)) 144 + 1 := ct_upd so1.1 (by omega) (hnt hj) (q := fT (take V k (gro V i))) (fun j => fT_take V k _ j)
      have hmn : mn2 (fP (gro V i) (k / 12)) (fP (gro V i) (k % 12)) = fP (gro V i) (k / 12) ∧ fP (gro V i) (k / 12) < fP (gro V i) (k % 12) ∨ mn2 (fP (gro V i) (k / 12)) (fP (gro V i) (k % 12)) = fP (gro V i) (k % 12) ∧ fP (gro V i) (k % 12) < fP (gro V i) (k / 12) := by
        unfold mn2; split <;> omega
      generalize fP (gro V i) (k / 12) = na at *
      generalize fP (gro V i) (k % 12) = nb at *
      generalize mn2 na nb = mm at *
      have pm : fP (gro V i) mm = mm := by
        rcases hmn with ⟨h, _⟩ | ⟨h, _⟩ <;> rw [h] <;> assumption
      refine ⟨fun x => ?_, fun x c d => ?_, ?_⟩
      · have := h1 x
        rw [hP x]
        split
        · rw [hP mm, if_pos (by omega)]
        · rw [hP, if_neg (by omega)]; exact this
      · have := h2 x c d
        rw [hP x]
        split <;> omega
      · have hr : ct (isRt (gro V i)) (vm V) = ct (isRt (take V k (gro V i))) (vm V) + 1 := by
          refine ct_upd (c := if mm = na then nb else na) ?_ ?_ ?_ (fun j => ?_)
          · split <;> omega
          · split <;> omega
          · unfold isRt
            refine decide_eq_false fun q => ?_
            rw [hP] at q
            split at q <;> split at q <;> omega
          · unfold isRt
            have := h1 j
            rw [hP j]
            by_cases c : j = if mm = na then nb else na
            · rw [if_pos c]
              refine decide_eq_true ?_
              split at c <;> (rw [c]; assumption)
            · rw [if_neg c]
              refine decide_eq_decide.mpr ?_
              constructor
              · intro q
                split
                · split at c <;> omega
                · exact q
              · intro q
                split at q
                · split at c <;> (subst q; omega)
                · exact q
        omega
section Cnt83
variable {e : Nat} {I J : IM} {Q : Post} {V : Vw} {H : Hw} {a b s : Int}
theorem sp_X11_parts (hG : Good V) (hW : Rrw I 201 0 V) (hR : Rk I V) (hQ : Q (.inl (some (.int (i32 ((vm V : Int) - (ct (fT (forest V)) 144 : Nat)))))) (ME e I J)) : SX11_parts [.ref 200] (ME e I J) Q := by
  refine x_in (Nat.le_of_ble_eq_true rfl) ?_
  dsimp only [bX11_parts, bX11_parts_0]
  have m := hG.1
  have rt := (gro_rt hG (nE V) (Nat.le_refl _)).2.2
  rw [show gro V (nE V) = forest V from rfl] at rt
  ((try rw [show (0 : Int32) = i32 (0) from rfl]); (try simp only [i32_add, i32_sub, i32_mul, i32_neg]))
  refine x_for (vm V) (fun i av μ => av = [.ref 200, .int (i32 (ct (isRt (forest V)) i : Nat)), .int (i32 i)] ∧ μ = ME e I J) ?_ ?_ (Nat.zero_le _) ⟨by simp [ct], rfl⟩
  · rintro i av μ hi ⟨rfl, rfl⟩ hJ
    dsimp only [bX11_parts, bX11_parts_1]
    ((try rw [show (1 : Int32) = i32 (1) from rfl]); (try simp only [i32_add, i32_sub, i32_mul, i32_neg]))
    have s1 : ct (isRt (forest V)) (i + 1) = ct (isRt (forest V)) i + (if isRt (forest V) i = true then 1 else 0) := rfl
    have p := hR.2.2 i (by omega) (by omega)
    have pr := (gro_rt hG (nE V) (Nat.le_refl _)).2.1 i (by omega) (by omega)
    rw [show gro V (nE V) = forest V from rfl] at pr
    refine x_ob rfl (x_cI (sp_X11_marks hW (x_le (by omega) (by omega) (fun h => by omega) (fun _ => ?_))))
    refine x_gR rfl rfl (x_aI rfl (by omega) (by omega) (by omega) ?_)
    rw [p]
    refine x_eq (by omega) (by omega) (fun h => x_lI ?_) (fun h => ?_)
    · rw [if_pos (isRt_iff.mpr h)] at s1
      exact hJ _ _ ⟨by rw [s1]; simp only [Int.cast_ofNat_Int, Int.natCast_add, Int.toNat_natCast, i32_add, i32_sub, i32_mul, i32_neg, i32_lit, i64_add, i64_sub, i64_mul, i64_neg, i64_lit, i64_int, Int.natCast_one], rfl⟩
    · rw [if_neg (fun q => h (isRt_iff.mp q))] at s1
      exact hJ _ _ ⟨by rw [s1]; simp only [Int.cast_ofNat_Int, Int.natCast_add, Int.toNat_natCast, i32_add, i32_sub, i32_mul, i32_neg, i32_lit, i64_add, i64_sub, i64_mul, i64_neg, i64_lit, i64_int, Nat.add_zero], rfl⟩
  · rintro av μ ⟨rfl, rfl⟩
    dsimp only [bX11_parts, bX11_parts_1]
    rw [show (vm V : Int) - (ct (fT (forest V)) 144 : Nat) = (ct (isRt (forest V)) (vm V) : Nat) by omega] at hQ
    exact x_ob rfl (x_cI (sp_X11_marks hW (x_le (by omega) (by omega) (fun _ => x_rI hQ) (fun h => by omega))))
theorem sp_X11_struck (hG : Good V) (hW : Rrw I 201 0 V) (hQ : Q (.inl (some (.int (i32 (ctH (vG V 5) (vn V) : Nat))))) (ME e I J)) : SX11_struck [.ref 200] (ME e I J) Q := by
  refine x_in (Nat.le_of_ble_eq_true rfl) ?_
  dsimp only [bX11_struck, bX11_struck_0]
  have m := hG.2.1
  ((try rw [show (0 : Int32) = i32 (0) from rfl]); (try simp only [i32_add, i32_sub, i32_mul, i32_neg]))
  refine x_for (vn V) (fun i av μ => av = [.ref 200, .int (i32 (ctH (vG V 5) i : Nat)), .int (i32 i)] ∧ μ = ME e I J) ?_ ?_ (Nat.zero_le _) ⟨by simp [ctH, ct], rfl⟩
  · rintro i av μ hi ⟨rfl, rfl⟩ hJ
    dsimp only [bX11_struck, bX11_struck_1]
    ((try rw [show (1 : Int32) = i32 (1) from rfl]); (try rw [show (5 : Int32) = i32 (5) from rfl]); (try simp only [i32_add, i32_sub, i32_mul, i32_neg]))
    have s1 : ctH (vG V 5) (i + 1) = ctH (vG V 5) i + (if decide (vG V 5 i = 1) = true then 1 else 0) := rfl
    have g := (gd_s hG (s := (i : Int)) (by omega) (by omega)).2.2.2.2.2.2
    refine x_ob rfl (x_cI (sp_X11_sights hW (x_le (by omega) (by omega) (fun h => by omega) (fun _ => ?_))))
    refine x_ob rfl (x_cI (sp_X11_ofSight (by omega) (by omega) (by omega) (by omega) ?_))
    dsimp only
    rw [show I 201 (68 + 6 * (i : Int) + 5) = vG V 5 i from W_s hW 5 (by omega) (by omega) (by omega), i32_add]
    refine x_lI (hJ _ _ ⟨?_, rfl⟩)
    rcases g with g | g
    · rw [s1, if_neg (by rw [g]; decide), g]; simp only [Int.cast_ofNat_Int, Int.natCast_add, Int.toNat_natCast, i32_add, i32_sub, i32_mul, i32_neg, i32_lit, i64_add, i64_sub, i64_mul, i64_neg, i64_lit, i64_int, Nat.add_zero, Int.add_zero]
    · rw [s1, if_pos (by rw [g]; decide), g]; simp only [Int.cast_ofNat_Int, Int.natCast_add, Int.toNat_natCast, i32_add, i32_sub, i32_mul, i32_neg, i32_lit, i64_add, i64_sub, i64_mul, i64_neg, i64_lit, i64_int, Int.natCast_one]
  · rintro av μ ⟨rfl, rfl⟩
    dsimp only [bX11_struck, bX11_struck_1]
    exact x_ob rfl (x_cI (sp_X11_sights hW (x_le (by omega) (by omega) (fun _ => x_rI hQ) (fun h => by omega))))
theorem sp_X11_edgesOf (hG : Good V) (hW : Rrw I 201 0 V) (hE : Ee I V) (hb : 0 ≤ b ∧ b < vm V) (hQ : Q (.inl (some (.int (i32 (deg V b 144 : Nat))))) (ME e I J)) : SX11_edgesOf [.ref 200, .int (i32 b)] (ME e I J) Q := by
  refine x_in (Nat.le_of_ble_eq_true rfl) ?_
  dsimp only [bX11_edgesOf, bX11_edgesOf_0]
  have m := hG.1
  rw [deg_ra hG hb] at hQ
  ((try rw [show (0 : Int32) = i32 (0) from rfl]); (try simp only [i32_add, i32_sub, i32_mul, i32_neg]))
  refine x_for (vm V) (fun i av μ => av = [.ref 200, .int (i32 b), .int (i32 (ct (fun a => decide (a ≠ b) && isE V (pq b a)) i : Nat)), .int (i32 i)] ∧ μ = ME e I J) ?_ ?_ (Nat.zero_le _) ⟨by simp [ct], rfl⟩
  · rintro i av μ hi ⟨rfl, rfl⟩ hJ
    dsimp only [bX11_edgesOf, bX11_edgesOf_1]
    ((try rw [show (0 : Int32) = i32 (0) from rfl]); (try rw [show (1 : Int32) = i32 (1) from rfl]); (try simp only [i32_add, i32_sub, i32_mul, i32_neg]))
    have s1 : ct (fun a => decide (a ≠ b) && isE V (pq b a)) (i + 1) = ct (fun a => decide (a ≠ b) && isE V (pq b a)) i + (if (decide ((i : Int) ≠ b) && isE V (pq b i)) = true then 1 else 0) := rfl
    refine x_ob rfl (x_cI (sp_X11_marks hW (x_le (by omega) (by omega) (fun h => by omega) (fun _ => ?_))))
    refine x_ob rfl (x_cI (sp_X11_isEdge hG hE (by omega) (by omega) ?_))
    by_cases h : b ≠ (i : Int) ∧ isE V (pq b i) = true
    · rw [if_pos h]
      refine x_eq (by omega) (by omega) (fun h => by omega) (fun _ => x_lI ?_)
      rw [if_pos (by simp only [Bool.and_eq_true, decide_eq_true_eq]; exact ⟨fun q => h.1 q.symm, h.2⟩)] at s1
      exact hJ _ _ ⟨by rw [s1]; simp only [Int.cast_ofNat_Int, Int.natCast_add, Int.toNat_natCast, i32_add, i32_sub, i32_mul, i32_neg, i32_lit, i64_add, i64_sub, i64_mul, i64_neg, i64_lit, i64_int, Int.natCast_one], rfl⟩
    · rw [if_neg h]
      refine x_eq (by omega) (by omega) (fun _ => ?_) (fun h => absurd rfl h)
      rw [if_neg (by simp only [Bool.and_eq_true, decide_eq_true_eq]; exact fun q => h ⟨fun z => q.1 z.symm, q.2⟩)] at s1
      exact hJ _ _ ⟨by rw [s1]; simp only [Int.cast_ofNat_Int, Int.natCast_add, Int.toNat_natCast, i32_add, i32_sub, i32_mul, i32_neg, i32_lit, i64_add, i64_sub, i64_mul, i64_neg, i64_lit, i64_int, Nat.add_zero], rfl⟩
  · rintro av μ ⟨rfl, rfl⟩
    dsimp only [bX11_edgesOf, bX11_edgesOf_1]
    exact x_ob rfl (x_cI (sp_X11_marks hW (x_le (by omega) (by omega) (fun _ => x_rI hQ) (fun h => by omega))))
theorem sp_X11_isSightOf (hG : Good V) (hW : Rrw I 201 0 V) (h0 : 0 ≤ s) (h1 : s < vn V) (hb : 0 ≤ b ∧ b < 12) (hQ : Q (.inl (some (.int (i32 (if vG V 0 s = b ∨ vG V 1 s = b then 1 else 0))))) (ME e I J)) : SX11_isSightOf [.ref 200, .int (i32 s), .int (i32 b)] (ME e I J) Q := by
  refine x_in (Nat.le_of_ble_eq_true rfl) ?_
  dsimp only [bX11_isSightOf, bX11_isSightOf_0]
  have n := hG.2.1
  have m := hG.1
  have g := gd_s hG h0 h1
  ((try rw [show (0 : Int32) = i32 (0) from rfl]); (try rw [show (1 : Int32) = i32 (1) from rfl]); (try simp only [i32_add, i32_sub, i32_mul, i32_neg]))
  refine x_ob rfl (x_cI (sp_X11_ofSight (by omega) (by omega) (by omega) (by omega) ?_))
  dsimp only
  rw [show I 201 (68 + 6 * s + 0) = vG V 0 s from W_s hW 0 h0 h1 (by omega)]
  refine x_eq (by omega) (by omega) (fun h => ?_) (fun h => ?_)
  · rw [if_pos (Or.inl h)] at hQ; exact x_rZ (v := 1) (by omega) hQ
  refine x_ob rfl (x_cI (sp_X11_ofSight (by omega) (by omega) (by omega) (by omega) ?_))
  dsimp only
  rw [show I 201 (68 + 6 * s + 1) = vG V 1 s from W_s hW 1 h0 h1 (by omega)]
  refine x_eq (by omega) (by omega) (fun h2 => ?_) (fun h2 => ?_)
  · rw [if_pos (Or.inr h2)] at hQ; exact x_rZ (v := 1) (by omega) hQ
  · rw [if_neg (fun q => q.elim h h2)] at hQ; exact x_rZ (v := 0) (by omega) hQ
theorem isAt_iff {v : Int} : isAt V b v s = true ↔ (vG V 0 s = b ∨ vG V 1 s = b) ∧ (v ≠ 0 ∨ vG V 5 s = 0) := by
  unfold isAt; simp
theorem sp_X11_sightsOf (hG : Good V) (hW : Rrw I 201 0 V) (hb : 0 ≤ b ∧ b < 12) (hQ : Q (.inl (some (.int (i32 (ct (isAt V b 0) (vn V) : Nat))))) (ME e I J)) : SX11_sightsOf [.ref 200, .int (i32 b)] (ME e I J) Q := by
  refine x_in (Nat.le_of_ble_eq_true rfl) ?_
  dsimp only [bX11_sightsOf, bX11_sightsOf_0]
  have m := hG.2.1
  ((try rw [show (0 : Int32) = i32 (0) from rfl]); (try simp only [i32_add, i32_sub, i32_mul, i32_neg]))
  refine x_for (vn V) (fun i av μ => av = [.ref 200, .int (i32 b), .int (i32 (ct (isAt V b 0) i : Nat)), .int (i32 i)] ∧ μ = ME e I J) ?_ ?_ (Nat.zero_le _) ⟨by simp [ct], rfl⟩
  · rintro i av μ hi ⟨rfl, rfl⟩ hJ
    dsimp only [bX11_sightsOf, bX11_sightsOf_1]
    ((try rw [show (0 : Int32) = i32 (0) from rfl]); (try rw [show (1 : Int32) = i32 (1) from rfl]); (try simp only [i32_add, i32_sub, i32_mul, i32_neg]))
    have s1 : ct (isAt V b 0) (i + 1) = ct (isAt V b 0) i + (if isAt V b 0 i = true then 1 else 0) := rfl
    have stay : ¬ isAt V b 0 i = true → fx bX11_sightsOf 1 [.ref 200, .int (i32 b), .int (i32 (ct (isAt V b 0) i : Nat)), .int (i32 ((i : Int) + 1))] (ME e I J) Q := fun h => by
      rw [if_neg h] at s1
      exact hJ _ _ ⟨by rw [s1]; simp only [Int.cast_ofNat_Int, Int.natCast_add, Int.toNat_natCast, i32_add, i32_sub, i32_mul, i32_neg, i32_lit, i64_add, i64_sub, i64_mul, i64_neg, i64_lit, i64_int, Nat.add_zero], rfl⟩
    refine x_ob rfl (x_cI (sp_X11_sights hW (x_le (by omega) (by omega) (fun h => by omega) (fun _ => ?_))))
    refine x_ob rfl (x_cI (sp_X11_counts hG hW (by omega) (by omega) ?_))
    by_cases h5 : vG V 5 i = 0
    · rw [if_pos h5]
      refine x_eq (by omega) (by omega) (fun h => by omega) (fun _ => ?_)
      refine x_ob rfl (x_cI (sp_X11_isSightOf hG hW (by omega) (by omega) hb ?_))
      by_cases h : vG V 0 i = b ∨ vG V 1 i = b
      · rw [if_pos h]
        refine x_eq (by omega) (by omega) (fun h => by omega) (fun _ => x_lI ?_)
        rw [if_pos (isAt_iff.mpr ⟨h, Or.inr h5⟩)] at s1
        exact hJ _ _ ⟨by rw [s1]; simp only [Int.cast_ofNat_Int, Int.natCast_add, Int.toNat_natCast, i32_add, i32_sub, i32_mul, i32_neg, i32_lit, i64_add, i64_sub, i64_mul, i64_neg, i64_lit, i64_int, Int.natCast_one], rfl⟩
      · rw [if_neg h]
        exact x_eq (by omega) (by omega) (fun _ => stay (fun q => h (isAt_iff.mp q).1)) (fun h => absurd rfl h)
    · rw [if_neg h5]
      exact x_eq (by omega) (by omega) (fun _ => stay (fun q => h5 ((isAt_iff.mp q).2.resolve_left (fun z => z rfl)))) (fun h => absurd rfl h)
  · rintro av μ ⟨rfl, rfl⟩
    dsimp only [bX11_sightsOf, bX11_sightsOf_1]
    exact x_ob rfl (x_cI (sp_X11_sights hW (x_le (by omega) (by omega) (fun _ => x_rI hQ) (fun h => by omega))))
theorem sp_X11_spreadOf (hG : Good V) (hW : Rrw I 201 0 V) (hE : Ee I V) {k : Int} (hk : 0 ≤ k ∧ k < 144) (hQ : Q (.inl (some (.int (i32 ((spr V k (vn V)).2.2 - (spr V k (vn V)).2.1))))) (ME e I J)) : SX11_spreadOf [.ref 200, .int (i32 k)] (ME e I J) Q := by
  refine x_in (Nat.le_of_ble_eq_true rfl) ?_
  dsimp only [bX11_spreadOf, bX11_spreadOf_0]
  have m := hG.2.1
  ((try rw [show (0 : Int32) = i32 (0) from rfl]); (try simp only [i32_add, i32_sub, i32_mul, i32_neg]))
  refine x_for (vn V) (fun i av μ => av = [.ref 200, .int (i32 k), .int (i32 (spr V k i).2.1), .int (i32 (spr V k i).2.2), .int (i32 (if (spr V k i).1 = true then 1 else 0)), .int (i32 i)] ∧ μ = ME e I J) ?_ ?_ (Nat.zero_le _) ⟨rfl, rfl⟩
  · rintro i av μ hi ⟨rfl, rfl⟩ hJ
    dsimp only [bX11_spreadOf, bX11_spreadOf_1]
    ((try rw [show (0 : Int32) = i32 (0) from rfl]); (try rw [show (1 : Int32) = i32 (1) from rfl]); (try simp only [i32_add, i32_sub, i32_mul, i32_neg]))
    have hs : spr V k (i + 1) = if vG V 5 i = 0 ∧ pr V i = k then
      (true, (if (spr V k i).1 = true ∧ (spr V k i).2.1 ≤ flp V i (rs V i) then (spr V k i).2.1 else flp V i (rs V i)), (if (spr V k i).1 = true ∧ flp V i (rs V i) ≤ (spr V k i).2.2 then (spr V k i).2.2 else flp V i (rs V i)))
      else spr V k i := rfl
    have stay : ¬ (vG V 5 i = 0 ∧ pr V i = k) → fx bX11_spreadOf 1 [.ref 200, .int (i32 k), .int (i32 (spr V k i).2.1), .int (i32 (spr V k i).2.2), .int (i32 (if (spr V k i).1 = true then 1 else 0)), .int (i32 ((i : Int) + 1))] (ME e I J) Q := fun h => by
      rw [if_neg h] at hs
      exact hJ _ _ ⟨by rw [hs]; simp only [Int.cast_ofNat_Int, Int.natCast_add, Int.toNat_natCast, i32_add, i32_sub, i32_mul, i32_neg, i32_lit, i64_add, i64_sub, i64_mul, i64_neg, i64_lit, i64_int], rfl⟩
    have sb := spr_bd hG k i (by omega)
    have gp := gd_pr hG (s := (i : Int)) (by omega) (by omega)
    have gr := gd_rs hG (s := (i : Int)) (by omega) (by omega)
    refine x_ob rfl (x_cI (sp_X11_sights hW (x_le (by omega) (by omega) (fun h => by omega) (fun _ => ?_))))
    refine x_ob rfl (x_cI (sp_X11_counts hG hW (by omega) (by omega) ?_))
    by_cases h5 : vG V 5 i = 0
    · rw [if_pos h5]
      refine x_eq (by omega) (by omega) (fun h => by omega) (fun _ => ?_)
      refine x_ob rfl (x_cI (sp_X11_pairOfSight hG hW (by omega) (by omega) ?_))
      refine x_eq (by omega) (by omega) (fun hp => ?_) (fun hp => stay (fun q => hp q.2))
      rw [if_pos ⟨h5, hp⟩] at hs
      have fin : ∀ y : Int, flp V i (rs V i) = y → fx bX11_spreadOf 1 [.ref 200, .int (i32 k), .int (i32 (if (spr V k i).1 = true ∧ (spr V k i).2.1 ≤ y then (spr V k i).2.1 else y)), .int (i32 (if (spr V k i).1 = true ∧ y ≤ (spr V k i).2.2 then (spr V k i).2.2 else y)), .int (i32 1), .int (i32 ((i : Int) + 1))] (ME e I J) Q := fun y hy => by
        rw [hy] at hs
        exact hJ _ _ ⟨by rw [hs]; simp only [Int.cast_ofNat_Int, Int.natCast_add, Int.toNat_natCast, i32_add, i32_sub, i32_mul, i32_neg, i32_lit, i64_add, i64_sub, i64_mul, i64_neg, i64_lit, i64_int, if_true], rfl⟩
      generalize spr V k i = S at *
      have tail : ∀ y : Int, (-51678 ≤ y ∧ y ≤ 51678) → flp V i (rs V i) = y →
          (if S.1 = true then (1 : Int) else 0) = 0 ∧ fx bX11_spreadOf 1 [.ref 200, .int (i32 k), .int (i32 y), .int (i32 y), .int (i32 1), .int (i32 ((i : Int) + 1))] (ME e I J) Q ∨ (if S.1 = true then (1 : Int) else 0) = 1 ∧ fx bX11_spreadOf 1 [.ref 200, .int (i32 k), .int (i32 (if y < S.2.1 then y else S.2.1)), .int (i32 (if S.2.2 < y then y else S.2.2)), .int (i32 1), .int (i32 ((i : Int) + 1))] (ME e I J) Q := fun y hyb hy => by
        have f := fin y hy
        cases hS : S.1
        · rw [hS] at f
          simp only [Bool.false_eq_true, false_and, if_false] at f
          exact Or.inl ⟨rfl, f⟩
        · rw [hS] at f
          simp only [true_and] at f
          refine Or.inr ⟨rfl, ?_⟩
          rw [show (if y < S.2.1 then y else S.2.1) = if S.2.1 ≤ y then S.2.1 else y by split <;> split <;> omega, show (if S.2.2 < y then y else S.2.2) = if y ≤ S.2.2 then S.2.2 else y by split <;> split <;> omega]
          exact f
      refine x_ob rfl (x_cI (sp_X11_goesUp hG hW (by omega) (by omega) ?_))
      by_cases hu : vG V 0 i < vG V 1 i
      · rw [if_pos hu]
        refine x_eq (by omega) (by omega) (fun h => by omega) (fun _ => ?_)
        refine x_ob rfl (x_cI (sp_X11_riseOf hG hW hE.1 (by omega) (by omega) ?_))
        dsimp only
        rcases tail (rs V i) gr (by unfold flp; rw [if_pos hu]) with ⟨h1, h2⟩ | ⟨h1, h2⟩
        · rw [h1]
          exact x_eq (by omega) (by omega) (fun _ => x_eq (by omega) (by omega) (fun _ => h2) (fun h => absurd rfl h)) (fun h => absurd rfl h)
        · rw [h1]
          refine x_eq (by omega) (by omega) (fun h => by omega) (fun _ => x_cI (sp_J9_min_7cf53 (by omega) (by omega) ?_))
          exact x_eq (by omega) (by omega) (fun h => by omega) (fun _ => x_cI (sp_J9_max_7cf53 (by omega) (by omega) h2))
      · rw [if_neg hu]
        refine x_eq (by omega) (by omega) (fun _ => ?_) (fun h => absurd rfl h)
        refine x_ob rfl (x_cI (sp_X11_riseOf hG hW hE.1 (by omega) (by omega) ?_))
        dsimp only
        rw [i32_neg]
        refine x_lI ?_
        rcases tail (-rs V i) (by omega) (by unfold flp; rw [if_neg hu]) with ⟨h1, h2⟩ | ⟨h1, h2⟩
        · rw [h1]
          exact x_eq (by omega) (by omega) (fun _ => x_eq (by omega) (by omega) (fun _ => h2) (fun h => absurd rfl h)) (fun h => absurd rfl h)
        · rw [h1]
          refine x_eq (by omega) (by omega) (fun h => by omega) (fun _ => x_cI (sp_J9_min_7cf53 (by omega) (by omega) ?_))
          exact x_eq (by omega) (by omega) (fun h => by omega) (fun _ => x_cI (sp_J9_max_7cf53 (by omega) (by omega) h2))
    · rw [if_neg h5]
      exact x_eq (by omega) (by omega) (fun _ => stay (fun q => h5 q.1)) (fun h => absurd rfl h)
  · rintro av μ ⟨rfl, rfl⟩
    dsimp only [bX11_spreadOf, bX11_spreadOf_1]
    refine x_ob rfl (x_cI (sp_X11_sights hW (x_le (by omega) (by omega) (fun _ => ?_) (fun h => by omega))))
    rw [i32_sub]
    exact x_rI hQ
def areM (V : Vw) (a b : Int) : Int := if 0 ≤ a ∧ a < vm V ∧ 0 ≤ b ∧ b < vm V then 1 else 0
theorem sp_X11_areMarks (hG : Good V) (hW : Rrw I 201 0 V) (ha : -2147483648 ≤ a ∧ a < 2147483648) (hb : -2147483648 ≤ b ∧ b < 2147483648) (hQ : Q (.inl (some (.int (i32 (areM V a b))))) (ME e I J)) : SX11_areMarks [.ref 200, .int (i32 a), .int (i32 b)] (ME e I J) Q := by
  refine x_in (Nat.le_of_ble_eq_true rfl) ?_
  dsimp only [bX11_areMarks, bX11_areMarks_0]
  ((try rw [show (0 : Int32) = i32 (0) from rfl]); (try rw [show (1 : Int32) = i32 (1) from rfl]); (try simp only [i32_add, i32_sub, i32_mul, i32_neg]))
  unfold areM at hQ
  refine x_ob rfl (x_cI (sp_X11_isMark hG hW ha ?_))
  by_cases h : 0 ≤ a ∧ a ≤ (vm V : Int) - 1
  · rw [if_pos h]
    refine x_eq (by omega) (by omega) (fun h => by omega) (fun _ => ?_)
    refine x_ob rfl (x_cI (sp_X11_isMark hG hW hb ?_))
    by_cases h2 : 0 ≤ b ∧ b ≤ (vm V : Int) - 1
    · rw [if_pos h2]
      rw [if_pos (by omega)] at hQ
      exact x_eq (by omega) (by omega) (fun h => by omega) (fun _ => x_rZ (v := 1) (by omega) hQ)
    · rw [if_neg h2]
      rw [if_neg (by omega)] at hQ
      exact x_eq (by omega) (by omega) (fun _ => x_rZ (v := 0) (by omega) hQ) (fun h => absurd rfl h)
  · rw [if_neg h]
    rw [if_neg (by omega)] at hQ
    exact x_eq (by omega) (by omega) (fun _ => x_rZ (v := 0) (by omega) hQ) (fun h => absurd rfl h)
theorem sp_X11_heightOf {m : Nat} (hm : m ≤ 12) (hGH : GoodH m H) (hH : Rhr I 201 0 m H) (hb : 0 ≤ b ∧ b < m) (hQ : Q (.inl (some (.int (i32 (hgt H b))))) (ME e I J)) : SX11_heightOf [.ref 200, .int (i32 b)] (ME e I J) Q := by
  refine x_in (Nat.le_of_ble_eq_true rfl) ?_
  dsimp only [bX11_heightOf, bX11_heightOf_0]
  ((try rw [show (0 : Int32) = i32 (0) from rfl]); (try rw [show (4 : Int32) = i32 (4) from rfl]); (try rw [show (-10000000 : Int32) = i32 (-10000000) from rfl]); (try simp only [i32_add, i32_sub, i32_mul, i32_neg]))
  have g := (hGH b hb.1 (by omega)).2.1
  unfold hgt at hQ
  refine x_ob rfl (x_cI (sp_X11_hasHeight hm hGH hH hb (x_eq (by omega) (by omega) (fun h => ?_) (fun h => ?_))))
  · rw [if_neg (by omega)] at hQ; exact x_rI hQ
  · rw [if_pos (by omega)] at hQ
    refine x_ob rfl (x_cI (sp_X11_of (by omega) (by omega) (by omega) (by omega) ?_))
    dsimp only
    rw [show I 201 (8 + 5 * b + 4) = hv H b by have := (hH b hb.1 hb.2).2.2 (by omega); simpa using this]
    exact x_rI hQ
theorem sp_X11_isReading (ha : -2147483648 ≤ a ∧ a < 2147483648) (hQ : Q (.inl (some (.int (i32 (if -9999 ≤ a ∧ a ≤ 9999 then 1 else 0))))) (ME e I J)) : SX11_isReading [.int (i32 a)] (ME e I J) Q := by
  refine x_in (Nat.le_of_ble_eq_true rfl) ?_
  dsimp only [bX11_isReading, bX11_isReading_0]
  rw [i32_long ha.1 ha.2, show (-9999 : Int64) = i64 (-9999) from rfl, show (9999 : Int64) = i64 9999 from rfl]
  exact x_cI (sp_X11_isIn (by omega) (by omega) (by omega) (x_rZ (by split <;> simp) hQ))
end Cnt83
