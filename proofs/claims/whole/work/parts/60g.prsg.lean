section Rd60g
variable {e : Nat} {I J : IM} {Q : Post} {V : Vw} {H : Hw} {a b v : Int} {l : List Int} {o : Nat → Int} {t : Tk}
theorem sp_X5_readSemicolon (hP : PC I l V H o t) (hT : okT l t) : Fz SX5_readSemicolon [.ref 153] e I J l (if tK t = 14 then .inr (V, H, o, nxt l t) else .inl (1, tS t)) := by
  intro Q h1 h2
  refine x_in (Nat.le_of_ble_eq_true rfl) ?_
  dsimp only [bX5_readSemicolon, bX5_readSemicolon_0]
  have k1 : (1 : Int32) = i32 ((1 : Nat) : Int) := rfl
  have k14 : (14 : Int32) = i32 14 := rfl
  rw [k14, k1]
  have f := hT.f
  refine x_gR rfl rfl (x_gI rfl ?_)
  rw [hP.k]
  refine x_eq (by omega) (by omega) (fun c => ?_) (fun c => ?_)
  · rw [if_pos (by omega)] at h1
    exact c_adv hP hT fun I1 g1 P1 _ => x_rZ (by omega) (h1 _ rfl I1 g1 P1)
  · rw [if_neg (by omega)] at h2
    exact fz hP.s fun I1 f1 a b => x_rZ (by omega) (h2 1 _ rfl I1 f1 a b)
theorem sp_X5_readStatement (hP : PC I l V H o t) (hG : GP l (V, H, o, t)) (he : e ∈ stLs) : Fz SX5_readStatement [.ref 153] e I J l (stm l (V, H, o, t)) := by
  intro Q h1 h2
  refine x_in (Nat.le_of_ble_eq_true rfl) ?_
  dsimp only [bX5_readStatement, bX5_readStatement_0]
  have hT := hG.2.2.2.2
  have f := hT.f
  unfold stm at h1 h2
  dsimp only at h1 h2 hT f
  have k1 : (1 : Int32) = i32 ((1 : Nat) : Int) := rfl
  have bad : (tK t ≠ 0 ∧ tK t ≠ 2 ∧ tK t ≠ 6 ∧ tK t ≠ 7 ∧ tK t ≠ 8 ∧ tK t ≠ 9 ∧ tK t ≠ 10) → (ob 5 153 (cI SX5_fail [.ref 153, .int 1] fun v4 => rZ v4)) (ME e I J) Q := by
    rintro ⟨c0, c2, c6, c7, c8, c9, c10⟩
    rw [if_neg c0, if_neg c2, if_neg c6, if_neg c7, if_neg c8, if_neg c9, if_neg c10] at h2
    rw [k1]
    exact fz hP.s fun I1 f1 a b => x_rZ (by omega) (h2 1 _ rfl I1 f1 a b)
  have set : ∀ (w : Nat) (sg : Bool), w < 4 → (∀ P, rdSet l (V, H, o, t) w sg = .inr P → ∀ I' : IM, FC I I' → PC I' l P.1 P.2.1 P.2.2.1 P.2.2.2 → Q (.inl (some (.int (i32 1)))) (ME e I' J)) → (∀ c s : Nat, rdSet l (V, H, o, t) w sg = .inl (c, s) → ∀ I' : IM, FC I I' → I' 153 4 = c → I' 153 5 = s → Q (.inl (some (.int (i32 0)))) (ME e I' J)) →
      (ob 5 153 (cI SX5_readSetting [.ref 153, .int (i32 w), .int (i32 (if sg = true then 1 else 0))] fun v9 => rZ v9)) (ME e I J) Q := by
    intro w sg hw g1 g2
    exact x_ob rfl (x_cI (sp_X5_readSetting hw hP hG _ (fun P hx I' f' P' => x_rZ (by decide) (g1 P hx I' f' P')) (fun c s hx I' f' x y => x_rZ (by decide) (g2 c s hx I' f' x y))))
  refine x_gR rfl rfl (x_gI rfl ?_)
  rw [hP.k, show (0 : Int32) = i32 0 from rfl]
  refine x_sw (by omega) (by omega) (fun k hk hak => ?_) (fun h => ?_)
  · have hak : tK t = k := by omega
    rw [hak] at h1 h2 bad
    rcases (show k = 0 ∨ k = 1 ∨ k = 2 ∨ k = 3 ∨ k = 4 ∨ k = 5 ∨ k = 6 ∨ k = 7 ∨ k = 8 ∨ k = 9 ∨ k = 10 by omega) with rfl | rfl | rfl | rfl | rfl | rfl | rfl | rfl | rfl | rfl | rfl
    · exact x_ob rfl (x_cI (sp_X5_readMark hP hG he _ (fun P hx I' f' P' => x_rZ (by decide) (h1 P hx I' f' P')) (fun c s hx I' f' x y => x_rZ (by decide) (h2 c s hx I' f' x y))))
    · exact bad (by decide)
    · exact x_ob rfl (x_cI (sp_X5_readSight hP hG _ (fun P hx I' f' P' => x_rZ (by decide) (h1 P hx I' f' P')) (fun c s hx I' f' x y => x_rZ (by decide) (h2 c s hx I' f' x y))))
    · exact bad (by decide)
    · exact bad (by decide)
    · exact bad (by decide)
    · exact set 0 false (by omega) h1 h2
    · exact x_ob rfl (x_cI (sp_X5_readError hP hG _ (fun P hx I' f' P' => x_rZ (by decide) (h1 P hx I' f' P')) (fun c s hx I' f' x y => x_rZ (by decide) (h2 c s hx I' f' x y))))
    · exact set 1 false (by omega) h1 h2
    · exact set 2 true (by omega) h1 h2
    · exact set 3 false (by omega) h1 h2
  · exact bad (by omega)
theorem rd_loop (he : e ∈ stLs) : ∀ (n : Nat) (V : Vw) (H : Hw) (o : Nat → Int) (t : Tk) (I : IM), n ≤ 901 → PC I l V H o t → GP l (V, H, o, t) →
    (∀ P, pa l n (V, H, o, t) = .inr P → ∀ I' : IM, FC I I' → PC I' l P.1 P.2.1 P.2.2.1 P.2.2.2 → Q (.inl (some (.int (i32 1)))) (ME e I' J)) →
    (∀ c s : Nat, pa l n (V, H, o, t) = .inl (c, s) → ∀ I' : IM, FC I I' → I' 153 4 = c → I' 153 5 = s → Q (.inl (some (.int (i32 0)))) (ME e I' J)) →
    fx bX5_readText 1 [.ref 153, .int (i32 (901 - (n : Int)))] (ME e I J) Q := by
  intro n
  induction n with
  | zero =>
    intro V H o t I _ hP hG h1 h2
    refine fx_in ?_
    dsimp only [bX5_readText, bX5_readText_1]
    ((try rw [show (0 : Int32) = i32 (0) from rfl]); (try rw [show (1 : Int32) = i32 (1) from rfl]); (try rw [show (900 : Int32) = i32 (900) from rfl]); (try simp only [i32_add, i32_sub, i32_mul, i32_neg]))
    exact x_lt (by omega) (by omega) (fun _ => x_rZ (by omega) (h1 _ rfl I (FC.refl I) hP)) (fun h => by omega)
  | succ n ih =>
    intro V H o t I hn hP hG h1 h2
    have f := hG.2.2.2.2.f
    dsimp only at f
    simp only [pa] at h1 h2
    refine fx_in ?_
    dsimp only [bX5_readText, bX5_readText_1]
    ((try rw [show (0 : Int32) = i32 (0) from rfl]); (try rw [show (1 : Int32) = i32 (1) from rfl]); (try rw [show (15 : Int32) = i32 (15) from rfl]); (try rw [show (900 : Int32) = i32 (900) from rfl]); (try simp only [i32_add, i32_sub, i32_mul, i32_neg]))
    refine x_lt (by omega) (by omega) (fun h => by omega) (fun _ => x_gR rfl rfl (x_gI rfl ?_))
    rw [hP.k]
    refine x_eq (by omega) (by omega) (fun c => ?_) (fun c => ?_)
    · rw [if_pos (by omega)] at h1
      exact x_rZ (by omega) (h1 _ rfl I (FC.refl I) hP)
    · rw [if_neg (by omega)] at h1 h2
      unfold sts at h1 h2
      refine x_ob rfl (x_cI (sp_X5_readStatement hP hG he _ (fun P hx I1 f1 P1 => ?_) (fun c s hx I1 f1 x y => ?_)))
      · rw [hx, andT_r] at h1 h2
        obtain ⟨V1, H1, o1, t1⟩ := P
        dsimp only at P1 h1 h2
        have G1 := (stm_ok hG hx).1
        refine x_eq (by omega) (by omega) (fun h => by omega) (fun _ => ?_)
        refine x_ob rfl (x_cI (sp_X5_readSemicolon P1 G1.2.2.2.2 _ (fun P hx2 I2 f2 P2 => ?_) (fun c s hx2 I2 f2 x y => ?_)))
        · rw [hx2, andT_r] at h1 h2
          refine x_eq (by omega) (by omega) (fun h => by omega) (fun _ => ?_)
          obtain ⟨V2, H2, o2, t2⟩ := P
          dsimp only at P2 h1 h2
          have G2 : GP l (V2, H2, o2, t2) := (sts_ok hG (P1 := (V2, H2, o2, t2)) (by unfold sts; rw [hx, andT_r]; exact hx2)).1
          rw [show (901 : Int) - ((n + 1 : Nat) : Int) + 1 = 901 - (n : Int) by omega]
          exact ih V2 H2 o2 t2 I2 (by omega) P2 G2 (fun P hp I' f' P' => h1 P hp I' ((f1.trans f2).trans f') P') (fun c s hp I' f' x y => h2 c s hp I' ((f1.trans f2).trans f') x y)
        · rw [hx2] at h2
          exact x_eq (by omega) (by omega) (fun _ => x_rZ (by omega) (h2 c s rfl I2 (f1.trans f2) x y)) (fun h => absurd rfl h)
      · rw [hx] at h2
        exact x_eq (by omega) (by omega) (fun _ => x_rZ (by omega) (h2 c s rfl I1 f1 x y)) (fun h => absurd rfl h)
theorem sp_cpS {q : Nat} (h1 : kb q = (1, 4)) (hQ : ∀ I' : IM, (∀ p, p ≠ q → I' p = I p) → (∀ i : Nat, i < 4 → I' q i = if (i : Int) = 0 then 1000 else if (i : Int) = 3 then 10 else 0) → Q (.inl none) (ME e I' J)) : SX10_copyRow [.ref q, .ref 1002] (ME e I J) Q := by
  refine x_in (Nat.le_of_ble_eq_true rfl) ?_
  dsimp only [bX10_copyRow, bX10_copyRow_0]
  refine x_for 4 (fun i av μ => ∃ I1 : IM, av = [.ref q, .ref 1002, .int (i32 i)] ∧ μ = ME e I1 J ∧ (∀ p, p ≠ q → I1 p = I p) ∧ (∀ j : Nat, j < i → I1 q j = if (j : Int) = 0 then 1000 else if (j : Int) = 3 then 10 else 0)) ?_ ?_ (Nat.zero_le _) ⟨I, rfl, rfl, fun _ _ => rfl, fun j hj => absurd hj (Nat.not_lt_zero j)⟩
  · rintro i av μ hi ⟨I1, rfl, rfl, f1, g1⟩ hJ
    dsimp only [bX10_copyRow, bX10_copyRow_1]
    refine x_aL h1 (Or.inl rfl) (x_le (by omega) (by omega) (fun h => by omega) (fun h => ?_))
    refine x_aLs (i := 2) (by omega) (x_le (by omega) (by omega) (fun h => by omega) (fun h => x_aIs (i := 2) (by omega) (by omega) (by omega) ?_))
    rw [show sI (1000 + 2) ((i : Int)).toNat = _ from sI_fi i hi]
    refine x_sA h1 (by omega) (by omega) (by omega) (hJ _ _ ⟨_, ?_, rfl, fun p a => by rw [up_qf a, f1 p a], fun j hj => ?_⟩)
    · rw [show (1 : Int32) = i32 1 from rfl, i32_add]; rfl
    · rw [up_at]
      by_cases h : j = i
      · subst h; rw [if_pos rfl]
      · rw [if_neg (by omega)]; exact g1 j (by omega)
  · rintro av μ ⟨I1, rfl, rfl, f1, g1⟩
    dsimp only [bX10_copyRow, bX10_copyRow_1]
    exact x_aL h1 (Or.inl rfl) (x_le (by omega) (by omega) (fun h => x_rV (hQ I1 f1 g1)) (fun h => by omega))
theorem sp_X6_clear (hQ : ∀ I' : IM, (∀ p, p < 157 ∨ 167 < p → I' p = I p) → Rst I' 157 oV → Rht I' 157 oH → Q (.inl none) (ME e I' J)) : SX6_clear [.ref 157] (ME e I J) Q := by
  refine x_in (Nat.le_of_ble_eq_true rfl) ?_
  dsimp only [bX6_clear, bX6_clear_0]
  ((try rw [show (0 : Int32) = i32 (0) from rfl]); (try simp only [i32_add, i32_sub, i32_mul, i32_neg]))
  refine x_gRs st157 rfl (x_cV (sp_cpS rfl fun I1 f1 g1 => x_pZs st157 (by omega) (x_gRs st157 rfl (x_cV (flR (n := 12) rfl (by omega) fun I2 f2 g2 => x_gRs st157 rfl (x_cV (flR (n := 12) rfl (by omega) fun I3 f3 g3 => x_pIs st157 (x_rV (hQ _ (fun p a => ?_) ?_ ?_)))))))))
  · rw [up_qf (by omega), f3 p (by omega), f2 p (by omega), up_qf (by omega), f1 p (by omega)]
  · refine ⟨fun i a b => ?_, ?_, fun h => ?_, ?_, trivial, trivial, trivial, fun s a b => ?_, fun s a b => ?_, fun s a b => ?_, fun s a b => ?_, fun s a b => ?_, fun s a b => ?_⟩
    · rw [up_q (by omega), f3 158 (by omega), f2 158 (by omega), up_q (by omega)]
      have := g1 i.toNat (by omega)
      rw [Int.toNat_of_nonneg a] at this
      exact this
    · rw [up_k (by omega), f3 157 (by omega), f2 157 (by omega), show ((1 : Nat) : Int) = 1 from rfl, up_self]; rfl
    · have h : (0 : Int) = 1 := h
      omega
    · rw [show ((6 : Nat) : Int) = 6 from rfl, up_self]; rfl
    all_goals (have b : s < ((0 : Nat) : Int) := b; omega)
  · intro k a b
    refine ⟨?_, ?_, fun h => ?_⟩
    · rw [up_q (by omega), f3 159 (by omega)]; exact g2 k a b
    · rw [up_q (by omega)]; exact g3 k a b
    · have h : (0 : Int) = 1 := h
      omega
theorem sp_X5_readText (he : e ∈ stLs) (hT : Tx I 1 2 l) (hB : By l) (hq : Qw I)
    (h1 : ∀ P, prs l = .inr P → ∀ I' : IM, FC I I' → PC I' l P.1 P.2.1 P.2.2.1 P.2.2.2 → Q (.inl (some (.int (i32 1)))) (ME e I' J))
    (h2 : ∀ c s : Nat, prs l = .inl (c, s) → ∀ I' : IM, FC I I' → I' 153 4 = c → I' 153 5 = s → Q (.inl (some (.int (i32 0)))) (ME e I' J)) :
    SX5_readText [.ref 153] (ME e I J) Q := by
  refine x_in (Nat.le_of_ble_eq_true rfl) ?_
  dsimp only [bX5_readText, bX5_readText_0]
  ((try rw [show (0 : Int32) = i32 (0) from rfl]); (try rw [show (-1 : Int32) = i32 (-1) from rfl]); (try simp only [i32_add, i32_sub, i32_mul, i32_neg]))
  refine x_gR rfl rfl (x_pI rfl (x_gR rfl rfl (x_obs st157 (x_cV (sp_X6_clear fun I1 f1 R1 H1 => ?_)))))
  refine x_gR rfl rfl (x_cV (flR (n := 5) rfl (by omega) fun I2 f2 g2 => x_pI rfl (x_pI rfl ?_)))
  have w0 : I1 154 0 = 0 := by rw [f1 154 (by omega), show ((0 : Nat) : Int) = 0 from rfl, up_self]
  have fr1 : ∀ q, q < 153 ∨ 168 < q → I2 q = I q := fun q a => by rw [f2 q (by omega), f1 q (by omega), up_qf (by omega)]
  have fr : ∀ q, q ≠ 153 → (up (up I2 153 ((4 : Nat) : Int) 0) 153 ((5 : Nat) : Int) (-1)) q = I2 q := fun q a => by rw [up_qf a, up_qf a]
  have e4 : (up (up I2 153 ((4 : Nat) : Int) 0) 153 ((5 : Nat) : Int) (-1)) 153 4 = 0 := by rw [up_k (by omega), show ((4 : Nat) : Int) = 4 from rfl, up_self]
  have e5 : (up (up I2 153 ((4 : Nat) : Int) 0) 153 ((5 : Nat) : Int) (-1)) 153 5 = -1 := by rw [show ((5 : Nat) : Int) = 5 from rfl, up_self]
  generalize up (up I2 153 ((4 : Nat) : Int) 0) 153 ((5 : Nat) : Int) (-1) = I3 at *
  have T3 : Tx I3 1 2 l := hT.keep (by rw [fr 1 (by omega), fr1 1 (by omega)]) (by rw [fr 2 (by omega), fr1 2 (by omega)])
  have q3 : Qw I3 := fun i hi => by rw [fr 170 (by omega), fr1 170 (by omega)]; exact hq i hi
  refine x_gR rfl rfl (x_ob rfl (x_cV (sp_X8_restart T3 hB q3 fun I4 f4 t4 => ?_)))
  have P4 : PC I4 l oV oH (fun _ => 0) (tk l 0) := by
    refine ⟨T3.keep (f4 1 (by omega)) (f4 2 (by omega)), hB, fun i hi => by rw [f4 170 (by omega)]; exact q3 i hi, R1.keep fun d hd => ?_, H1.keep fun d hd => ?_, ⟨?_, fun k a b => ?_, fun k a b => ?_⟩, fun i hi => ?_, t4, ?_⟩
    · rw [f4 _ (by omega), fr _ (by omega), f2 _ (by omega)]
    · rw [f4 _ (by omega), fr _ (by omega), f2 _ (by omega)]
    · rw [f4 154 (by omega), fr 154 (by omega), f2 154 (by omega)]; exact w0
    · have b : k < ((0 : Nat) : Int) := b
      omega
    · have b : k < ((0 : Nat) : Int) := b
      omega
    · rw [f4 168 (by omega), fr 168 (by omega)]; exact g2 i (by omega) (by omega)
    · rw [f4 153 (by omega)]; exact ⟨e4, e5⟩
  have fc : FC I I4 := fun q a => by rw [f4 q (by omega), fr q (by omega), fr1 q (by omega)]
  exact rd_loop he 901 oV oH (fun _ => 0) (tk l 0) I4 (by omega) P4 GP_0 (fun P hp I' f' P' => h1 P hp I' (fc.trans f') P') (fun c s hp I' f' x y => h2 c s hp I' (fc.trans f') x y)
/-- what a parse leaves in the class -/
def Cp (I I' : IM) : Prop := (∀ q, (1 < q ∧ q < 5) ∨ (19 ≤ q ∧ q < 41) ∨ (41 < q ∧ q < 153) ∨ 169 < q → I' q = I q) ∧ (∀ k, k < 12 ∨ 14 < k → I' 0 k = I 0 k) ∧ I' 41 2 = I 41 2
theorem cq_parse (h : Cn I V H) (he : e ∈ stLs) (hT : Tx I 1 2 l) (hB : By l) (hq : Qw I)
    (h1 : ∀ P, prs l = .inr P → ∀ I' : IM, Cp I I' → Rwl I' 5 P.1 → Rst I' 8 P.1 → Rht I' 8 P.2.1 → I' 41 1 = 0 → I' 0 12 = 0 → I' 0 13 = 0 → I' 0 14 = -1 → I' 1 1 = 0 → Q (.inl (some (.int (i32 (vm P.1))))) (ME e I' J))
    (h2 : ∀ c s : Nat, prs l = .inl (c, s) → ∀ I' : IM, Cp I I' → (∀ q, 5 ≤ q → q < 19 ∨ q = 41 → I' q = I q) → I' 0 12 = I 0 12 → I' 0 13 = c → I' 0 14 = s → I' 1 1 = 0 → Q (.inl (some (.int (i32 (-1))))) (ME e I' J)) :
    SX10_parse [.ref 0] (ME e I J) Q := by
  refine x_in (Nat.le_of_ble_eq_true rfl) ?_
  dsimp only [bX10_parse, bX10_parse_0]
  ((try rw [show (0 : Int32) = i32 (0) from rfl]); (try rw [show (-1 : Int32) = i32 (-1) from rfl]); (try simp only [i32_add, i32_sub, i32_mul, i32_neg]))
  have m := h.1.1
  refine x_gR rfl rfl (x_ob rfl (x_cI (sp_X5_readText he hT hB hq (fun P hp I1 f1 P1 => ?_) (fun c s hp I1 f1 e4 e5 => ?_))))
  · refine x_gR rfl rfl (x_gI rfl (x_pI rfl (x_gR rfl rfl (x_gI rfl (x_pI rfl (x_gR rfl rfl (x_pI rfl ?_)))))))
    rw [up_q (show (153 : Nat) ≠ 0 by decide), show I1 153 ((4 : Nat) : Int) = 0 from P1.2.2.2.2.2.2.2.2.1, show I1 153 ((5 : Nat) : Int) = -1 from P1.2.2.2.2.2.2.2.2.2]
    have fr : ∀ q, q ≠ 0 → q ≠ 1 → (up (up (up I1 0 ((13 : Nat) : Int) 0) 0 ((14 : Nat) : Int) (-1)) 1 ((1 : Nat) : Int) 0) q = I1 q := fun q a b => by rw [up_qf b, up_qf a, up_qf a]
    have fr0 : ∀ k, k ≠ 13 → k ≠ 14 → (up (up (up I1 0 ((13 : Nat) : Int) 0) 0 ((14 : Nat) : Int) (-1)) 1 ((1 : Nat) : Int) 0) 0 k = I1 0 k := fun k a b => by rw [up_q (by decide), up_k (show k ≠ ((14 : Nat) : Int) from b), up_k (show k ≠ ((13 : Nat) : Int) from a)]
    have e13 : (up (up (up I1 0 ((13 : Nat) : Int) 0) 0 ((14 : Nat) : Int) (-1)) 1 ((1 : Nat) : Int) 0) 0 13 = 0 := by rw [up_q (by decide), up_k (by omega), show ((13 : Nat) : Int) = 13 from rfl, up_self]
    have e14 : (up (up (up I1 0 ((13 : Nat) : Int) 0) 0 ((14 : Nat) : Int) (-1)) 1 ((1 : Nat) : Int) 0) 0 14 = -1 := by rw [up_q (by decide), show ((14 : Nat) : Int) = 14 from rfl, up_self]
    have e11 : (up (up (up I1 0 ((13 : Nat) : Int) 0) 0 ((14 : Nat) : Int) (-1)) 1 ((1 : Nat) : Int) 0) 1 1 = 0 := by rw [show ((1 : Nat) : Int) = 1 from rfl, up_self]
    generalize up (up (up I1 0 ((13 : Nat) : Int) 0) 0 ((14 : Nat) : Int) (-1)) 1 ((1 : Nat) : Int) 0 = I2 at *
    have G := (pa_ok 901 (P0 l) GP_0 (by have := hB.1; omega) P hp).1
    have m2 := G.1.1
    have R2 : Rst I2 157 P.1 := P1.2.2.2.1.keep fun d hd => fr _ (by omega) (by omega)
    have H2 : Rht I2 157 P.2.1 := P1.2.2.2.2.1.keep fun d hd => fr _ (by omega) (by omega)
    have W2 : Rwl I2 154 P.1 := P1.2.2.2.2.2.1.keep fun d hd => fr _ (by omega) (by omega)
    refine x_eq (by omega) (by omega) (fun h => by omega) (fun _ => x_gR rfl rfl (x_gR rfl rfl (x_gR rfl rfl ?_)))
    refine x_ob rfl (x_cV (sp_X9_copyFrom (wl5 e) (wl154 e) (by omega) fun I3 f3 w3 => ?_))
    have W3 := w3 P.1 m2 W2
    have R3 : Rst I3 157 P.1 := R2.keep fun d hd => f3 _ (by omega)
    have H3 : Rht I3 157 P.2.1 := H2.keep fun d hd => f3 _ (by omega)
    refine x_gR rfl rfl (x_gR rfl rfl (x_gR rfl rfl ?_))
    refine x_obs st8 (x_cV (sp_X6_copyFrom st8 st157 (by decide) (by rw [R_told R3]; exact G.1.2.2.2.2.2.2.1) fun I4 f4 c4 => ?_))
    have R4 := c4.Rst R3 G.1.2.1
    have H4 := c4.Rht H3
    refine x_gR rfl rfl (x_pI rfl (x_pZ rfl (by omega) (x_gR rfl rfl (x_gI rfl ?_))))
    have g : ∀ q, q ≠ 0 → q ≠ 41 → (up (up I4 41 ((1 : Nat) : Int) 0) 0 ((12 : Nat) : Int) 0) q = I4 q := fun q a b => by rw [up_qf a, up_qf b]
    have g41 : (up (up I4 41 ((1 : Nat) : Int) 0) 0 ((12 : Nat) : Int) 0) 41 1 = 0 := by rw [up_q (by decide), show ((1 : Nat) : Int) = 1 from rfl, up_self]
    have g42 : (up (up I4 41 ((1 : Nat) : Int) 0) 0 ((12 : Nat) : Int) 0) 41 2 = I4 41 2 := by rw [up_q (by decide), up_k (by omega)]
    have g12 : (up (up I4 41 ((1 : Nat) : Int) 0) 0 ((12 : Nat) : Int) 0) 0 12 = 0 := by rw [show ((12 : Nat) : Int) = 12 from rfl, up_self]
    have g0 : ∀ k, k ≠ 12 → (up (up I4 41 ((1 : Nat) : Int) 0) 0 ((12 : Nat) : Int) 0) 0 k = I4 0 k := fun k a => by rw [up_k (show k ≠ ((12 : Nat) : Int) from a), up_q (by decide)]
    generalize up (up I4 41 ((1 : Nat) : Int) 0) 0 ((12 : Nat) : Int) 0 = I5 at *
    have W5 : Rwl I5 5 P.1 := W3.keep fun d hd => by rw [g _ (by omega) (by omega), f4 _ (by omega)]
    rw [show I5 5 ((0 : Nat) : Int) = (vm P.1 : Int) from W5.1]
    refine x_rI (h1 P hp I5 ⟨fun q a => ?_, fun k a => ?_, ?_⟩ W5 (R4.keep fun d hd => g _ (by omega) (by omega)) (H4.keep fun d hd => g _ (by omega) (by omega)) g41 g12 ?_ ?_ ?_)
    · rw [g q (by omega) (by omega), f4 q (by omega), f3 q (by omega), fr q (by omega) (by omega), f1 q (by omega)]
    · rw [g0 k (by omega), f4 0 (by omega), f3 0 (by omega), fr0 k (by omega) (by omega), f1 0 (by omega)]
    · rw [g42, f4 41 (by omega), f3 41 (by omega), fr 41 (by omega) (by omega), f1 41 (by omega)]
    · rw [g0 13 (by omega), f4 0 (by omega), f3 0 (by omega)]; exact e13
    · rw [g0 14 (by omega), f4 0 (by omega), f3 0 (by omega)]; exact e14
    · rw [g 1 (by omega) (by omega), f4 1 (by omega), f3 1 (by omega)]; exact e11
  · refine x_gR rfl rfl (x_gI rfl (x_pI rfl (x_gR rfl rfl (x_gI rfl (x_pI rfl (x_gR rfl rfl (x_pI rfl ?_)))))))
    rw [up_q (show (153 : Nat) ≠ 0 by decide), show I1 153 ((4 : Nat) : Int) = c from e4, show I1 153 ((5 : Nat) : Int) = s from e5]
    refine x_eq (by omega) (by omega) (fun _ => x_rI (h2 c s hp _ ⟨fun q a => ?_, fun k a => ?_, ?_⟩ (fun q a b => ?_) ?_ ?_ ?_ ?_)) (fun h => absurd rfl h)
    · rw [up_qf (by omega), up_qf (by omega), up_qf (by omega), f1 q (by omega)]
    · rw [up_q (by omega), up_k (by omega), up_k (by omega), f1 0 (by omega)]
    · rw [up_q (by omega), up_q (by omega), up_q (by omega), f1 41 (by omega)]
    · rw [up_qf (by omega), up_qf (by omega), up_qf (by omega), f1 q (by omega)]
    · rw [up_q (by omega), up_k (by omega), up_k (by omega), f1 0 (by omega)]
    · rw [up_q (by omega), up_k (by omega), show ((13 : Nat) : Int) = 13 from rfl, up_self]
    · rw [up_q (by omega), show ((14 : Nat) : Int) = 14 from rfl, up_self]
    · rw [show ((1 : Nat) : Int) = 1 from rfl, up_self]
end Rd60g
