section St61g
variable {e : Nat} {I J : IM} {Q : Post} {V : Vw} {H : Hw} {lo hi a b v p x : Int} {l : List Int} {o : Nat → Int} {t : Tk} {c s : Nat} {w : Nat}
theorem sp_X11_statement (h : PR I l V H o t) (hG : GP l (V, H, o, t)) : Rz SX11_statement [.ref 200] e I J l (sts l (V, H, o, t)) := by
  intro Q h1 h2
  obtain ⟨gG, gGH, gHB, go, hT⟩ := id hG
  refine x_in (Nat.le_of_ble_eq_true rfl) ?_
  dsimp only [bX11_statement, bX11_statement_0]
  dsimp only at gG gGH gHB go hT
  unfold sts at h1 h2
  have k0 : (0 : Int32) = i32 0 := rfl
  have k1 : (1 : Int32) = i32 1 := rfl
  have k3 : (3 : Int32) = i32 3 := rfl
  have k5 : (5 : Int32) = i32 ((5 : Nat) : Int) := rfl
  have k6 : (6 : Int32) = i32 ((6 : Nat) : Int) := rfl
  have f := hT.f
  -- the semicolon behind a right statement
  have semi : ∀ P : Ps, stm l (V, H, o, t) = .inr P → ∀ I1 : IM, FR I I1 → PR I1 l P.1 P.2.1 P.2.2.1 P.2.2.2 → fx bX11_statement 2 [.ref 200] (ME e I1 J) Q := by
    intro P hP I1 g1 p1
    rw [hP, andT_r] at h1 h2
    have T1 := (stm_ok hG hP).1.2.2.2.2
    refine fx_in ?_
    dsimp only [bX11_statement, bX11_statement_2]
    rw [k3, k1, k0]
    obtain ⟨y, e24, y0, y5, _, y3, _⟩ := tok24 p1 T1
    refine x_gI rfl ?_
    rw [show I1 200 ((24 : Nat) : Int) = y from e24]
    refine x_eq (by omega) (by omega) (fun hk => ?_) (fun hk => ?_)
    · rw [if_pos (by omega)] at h1
      exact x_ob rfl (x_cV (fn_needs p1.2.2.2.2.2.1 (x_ob rfl (x_cV (fn_goOn p1 T1 fun I2 g2 p2 => x_rV (h1 _ rfl I2 (g1.trans g2.fr) p2))))))
    · rw [if_neg (by omega)] at h2
      exact x_ob rfl (x_cV (fn_bad (c := 1) p1 (by omega) fun I2 g2 b2 => x_ob rfl (x_cV (bd_goOn b2 (x_rV (h2 1 _ rfl I2 (g1.trans g2) b2))))))
  have fault : ∀ c s : Nat, stm l (V, H, o, t) = .inl (c, s) → ∀ I1 : IM, FR I I1 → Bd I1 c s → fx bX11_statement 2 [.ref 200] (ME e I1 J) Q := by
    intro c s hc I1 g1 b1
    rw [hc] at h2
    refine fx_in ?_
    dsimp only [bX11_statement, bX11_statement_2]
    exact x_gI rfl (x_br (fun _ => x_ob rfl (x_cV (bd_needs b1 (x_ob rfl (x_cV (bd_goOn b1 (x_rV (h2 c s rfl I1 g1 b1)))))))) (fun _ => x_ob rfl (x_cV (bd_needs b1 (x_ob rfl (x_cV (bd_goOn b1 (x_rV (h2 c s rfl I1 g1 b1)))))))))
  -- no setting
  have other : (tK t < 11 → ¬ rpK (tK t) < 5) → fx bX11_statement 1 [.ref 200] (ME e I J) Q := by
    intro hno
    refine fx_in ?_
    dsimp only [bX11_statement, bX11_statement_1]
    rw [k6, k5, k1, k0]
    have n6 : tK t ≠ 6 := fun q => hno (by omega) (by rw [q]; decide)
    have n7 : tK t ≠ 7 := fun q => hno (by omega) (by rw [q]; decide)
    have n8 : tK t ≠ 8 := fun q => hno (by omega) (by rw [q]; decide)
    have n9 : tK t ≠ 9 := fun q => hno (by omega) (by rw [q]; decide)
    have n10 : tK t ≠ 10 := fun q => hno (by omega) (by rw [q]; decide)
    have hs : stm l (V, H, o, t) = if tK t = 0 then rdMark l (V, H, o, t) else if tK t = 2 then rdSight l (V, H, o, t) else .inl (1, tS t) := by
      unfold stm
      dsimp only
      rw [if_neg n6, if_neg n7, if_neg n8, if_neg n9, if_neg n10]
    rw [hs] at semi fault
    refine x_ob rfl (x_cI (fn_isWord (w := 5) (by omega) h hT ?_))
    rw [show cpK 5 = 0 from rfl]
    by_cases c0 : tK t = 0
    · rw [if_pos c0] at semi fault ⊢
      exact x_eq (by omega) (by omega) (fun h => by omega) (fun _ => x_ob rfl (x_cV (sp_X11_readsMark h hG _ (fun P hP I' f' P' => semi P hP I' f' P') (fun c s hc I' f' b' => fault c s hc I' f' b'))))
    · rw [if_neg c0] at semi fault ⊢
      refine x_eq (by omega) (by omega) (fun _ => x_ob rfl (x_cI (fn_isWord (w := 6) (by omega) h hT ?_))) (fun h => absurd rfl h)
      rw [show cpK 6 = 2 from rfl]
      by_cases c2 : tK t = 2
      · rw [if_pos c2] at semi fault ⊢
        exact x_eq (by omega) (by omega) (fun h => by omega) (fun _ => x_ob rfl (x_cV (sp_X11_readsSight h hG _ (fun P hP I' f' P' => semi P hP I' f' P') (fun c s hc I' f' b' => fault c s hc I' f' b'))))
      · rw [if_neg c2] at fault ⊢
        exact x_eq (by omega) (by omega) (fun _ => x_ob rfl (x_cV (fn_bad (c := 1) h (by omega) fun I1 g1 b1 => fault 1 _ rfl I1 g1 b1))) (fun h => absurd rfl h)
  have b := Tr.bd h.2.2.2.2.1 f.2.2.1
  have g24 : ∀ x : Int, I 200 24 = x → I 200 ((24 : Nat) : Int) = x := fun x h => h
  have g25 : ∀ x : Int, I 200 25 = x → I 200 ((25 : Nat) : Int) = x := fun x h => h
  rw [k1, k0]
  have isin : ∀ (x : Int) {F G : Sem}, (-1 ≤ x ∧ x ≤ 20) → I 200 25 = x → ((0 ≤ x ∧ x ≤ 4) → G (ME e I J) Q) → (¬ (0 ≤ x ∧ x ≤ 4) → F (ME e I J) Q) → (gI 11 25 200 fun v2 => cI SX11_isIn [.long (v2.toInt64), .long 0, .long 4] fun v3 => br (v3 = i32 0) F G) (ME e I J) Q := by
    intro x F G hx he hG' hF'
    refine x_gI rfl ?_
    rw [g25 _ he, i32_long (by omega) (by omega), show (0 : Int64) = i64 0 from rfl, show (4 : Int64) = i64 4 from rfl]
    refine x_cI (sp_X11_isIn (by omega) (by omega) (by omega) ?_)
    by_cases q : 0 ≤ x ∧ x ≤ 4
    · rw [if_pos q]; exact x_eq (by omega) (by omega) (fun h => by omega) (fun _ => hG' q)
    · rw [if_neg q]; exact x_eq (by omega) (by omega) (fun _ => hF' q) (fun h => absurd rfl h)
  refine x_gI rfl ?_
  rcases b with b | b | b | b | b | b | b | b
  · rw [g24 _ b.1]; exact x_eq (by omega) (by omega) (fun h => by omega) (fun _ => other (fun q => by omega))
  · rw [g24 _ b.1]
    have ck := cp_rp (tK t) b.2.1
    have k11 := ck.2.1
    refine x_eq (by omega) (by omega) (fun _ => ?_) (fun h => absurd rfl h)
    refine isin _ (by omega) b.2.2 (fun hq => ?_) (fun hq => other (fun _ => by omega))
    have hs : stm l (V, H, o, t) = rdOnce l (V, H, o, t) (rpK (tK t)) := by
      have := b.2.1
      unfold stm rdOnce
      dsimp only
      have : tK t = 6 ∨ tK t = 7 ∨ tK t = 8 ∨ tK t = 9 ∨ tK t = 10 := by
        generalize hk : tK t = k at *
        rcases (show k = 0 ∨ k = 1 ∨ k = 2 ∨ k = 3 ∨ k = 4 ∨ k = 5 ∨ k = 6 ∨ k = 7 ∨ k = 8 ∨ k = 9 ∨ k = 10 by omega) with rfl | rfl | rfl | rfl | rfl | rfl | rfl | rfl | rfl | rfl | rfl <;> first | omega | (exfalso; revert hq; decide)
      rcases this with q | q | q | q | q <;> rw [q] <;> rfl
    rw [hs] at semi fault
    exact x_ob rfl (x_cV (sp_X11_readsOnce (w := rpK (tK t)) (by omega) ck.2.2.2.symm h hG _ (fun P hP I' f' P' => semi P hP I' f' P') (fun c s hc I' f' b' => fault c s hc I' f' b')))
  · rw [g24 _ b.1]
    refine x_eq (by omega) (by omega) (fun _ => ?_) (fun h => absurd rfl h)
    exact isin _ (by omega) b.2.1 (fun hq => by omega) (fun hq => other (fun _ => by omega))
  · rw [g24 _ b.1]
    refine x_eq (by omega) (by omega) (fun _ => ?_) (fun h => absurd rfl h)
    exact isin _ (by omega) b.2.1 (fun hq => by omega) (fun hq => other (fun _ => by omega))
  · rw [g24 _ b.1]; exact x_eq (by omega) (by omega) (fun h => by omega) (fun _ => other (fun q => by omega))
  · rw [g24 _ b.1]; exact x_eq (by omega) (by omega) (fun h => by omega) (fun _ => other (fun q => by omega))
  · rw [g24 _ b.1]; exact x_eq (by omega) (by omega) (fun h => by omega) (fun _ => other (fun q => by omega))
  · rw [g24 _ b.1]; exact x_eq (by omega) (by omega) (fun h => by omega) (fun _ => other (fun q => by omega))
theorem rp_loop : ∀ (n : Nat) (V : Vw) (H : Hw) (o : Nat → Int) (t : Tk) (I : IM), l.length < n + tS t → PR I l V H o t → GP l (V, H, o, t) →
    (∀ P, pa l n (V, H, o, t) = .inr P → ∀ I' : IM, FR I I' → PR I' l P.1 P.2.1 P.2.2.1 P.2.2.2 → fx bX11_parse 2 [.ref 200] (ME e I' J) Q) →
    (∀ c s : Nat, pa l n (V, H, o, t) = .inl (c, s) → ∀ I' : IM, FR I I' → Bd I' c s → fx bX11_parse 2 [.ref 200] (ME e I' J) Q) →
    fx bX11_parse 1 [.ref 200] (ME e I J) Q := by
  intro n
  induction n with
  | zero =>
    intro V H o t I hn _ hG
    have f := hG.2.2.2.2.f
    dsimp only at f
    omega
  | succ n ih =>
    intro V H o t I hn hP hG h1 h2
    have hT := hG.2.2.2.2
    dsimp only at hT
    obtain ⟨y, e24, y0, y5, _, _, _, yE⟩ := tok24 hP hT
    simp only [pa] at h1 h2
    refine fx_in ?_
    dsimp only [bX11_parse, bX11_parse_1]
    ((try rw [show (0 : Int32) = i32 (0) from rfl]); (try simp only [i32_add, i32_sub, i32_mul, i32_neg]))
    refine x_ob rfl (x_cI (fn_fine hP.2.2.2.2.2.1 (x_eq (by omega) (by omega) (fun h => by omega) (fun _ => x_gI rfl ?_))))
    rw [show I 200 ((24 : Nat) : Int) = y from e24]
    refine x_eq (by omega) (by omega) (fun c => ?_) (fun c => ?_)
    · rw [if_pos (by omega)] at h1
      exact h1 _ rfl I (FR.refl I) hP
    · rw [if_neg (by omega)] at h1 h2
      refine x_ob rfl (x_cV (sp_X11_statement hP hG _ (fun P hx I1 f1 P1 => ?_) (fun c s hx I1 f1 b1 => ?_)))
      · rw [hx, andT_r] at h1 h2
        obtain ⟨V1, H1, o1, t1⟩ := P
        have G1 := sts_ok hG hx
        have G2 := G1.2
        dsimp only at P1 h1 h2 G2
        exact ih V1 H1 o1 t1 I1 (by omega) P1 G1.1 (fun P hp I' f' P' => h1 P hp I' (f1.trans f') P') (fun c s hp I' f' b' => h2 c s hp I' (f1.trans f') b')
      · rw [hx] at h2
        have fin := h2 c s rfl I1 f1 b1
        refine fx_in ?_
        dsimp only [bX11_parse, bX11_parse_1]
        ((try rw [show (0 : Int32) = i32 (0) from rfl]); (try simp only [i32_add, i32_sub, i32_mul, i32_neg]))
        exact x_ob rfl (x_cI (bd_fine b1 (x_eq (by omega) (by omega) (fun _ => fin) (fun h => absurd rfl h))))
theorem sp_X11_resets (hQ : ∀ I' : IM, (∀ q, q ≠ 201 → I' q = I q) → (∀ k : Int, 0 ≤ k → k < 308 → I' 201 k = if k = 2 then 1000 else if k = 5 then 10 else 0) → Q (.inl none) (ME e I' J)) : SX11_resets [.ref 200] (ME e I J) Q := by
  refine x_in (Nat.le_of_ble_eq_true rfl) ?_
  dsimp only [bX11_resets, bX11_resets_0]
  refine x_for 308 (fun i av μ => ∃ I1 : IM, av = [.ref 200, .int (i32 i)] ∧ μ = ME e I1 J ∧ (∀ q, q ≠ 201 → I1 q = I q) ∧ (∀ k : Int, 0 ≤ k → k < i → I1 201 k = 0)) ?_ ?_ (Nat.zero_le _) ⟨I, rfl, rfl, fun _ _ => rfl, fun k a b => by omega⟩
  · rintro i av μ hi ⟨I1, rfl, rfl, f1, g1⟩ hJ
    dsimp only [bX11_resets, bX11_resets_1]
    ((try rw [show (0 : Int32) = i32 (0) from rfl]); (try rw [show (1 : Int32) = i32 (1) from rfl]); (try rw [show (308 : Int32) = i32 (308) from rfl]); (try simp only [i32_add, i32_sub, i32_mul, i32_neg]))
    refine x_le (by omega) (by omega) (fun h => by omega) (fun _ => x_gR rfl rfl (x_sA rfl (by omega) (by omega) (by omega) (hJ _ _ ⟨_, rfl, rfl, fun q a => by rw [up_qf a, f1 q a], fun k a b => ?_⟩)))
    rw [up_at]
    by_cases h : k = i
    · rw [if_pos h]
    · rw [if_neg h]; exact g1 k a (by omega)
  · rintro av μ ⟨I1, rfl, rfl, f1, g1⟩
    dsimp only [bX11_resets, bX11_resets_1]
    ((try rw [show (0 : Int32) = i32 (0) from rfl]); (try rw [show (1 : Int32) = i32 (1) from rfl]); (try rw [show (2 : Int32) = i32 (2) from rfl]); (try rw [show (5 : Int32) = i32 (5) from rfl]); (try rw [show (10 : Int32) = i32 (10) from rfl]); (try rw [show (308 : Int32) = i32 (308) from rfl]); (try rw [show (1000 : Int32) = i32 (1000) from rfl]); (try simp only [i32_add, i32_sub, i32_mul, i32_neg]))
    refine x_le (by omega) (by omega) (fun _ => x_gR rfl rfl (x_sA rfl (by omega) (by omega) (by omega) (x_gR rfl rfl (x_sA rfl (by omega) (by omega) (by omega) (x_rV (hQ _ (fun q a => by rw [up_qf a, up_qf a, f1 q a]) fun k a b => ?_)))))) (fun h => by omega)
    rw [up_at]
    by_cases h5 : k = 5
    · rw [if_pos h5, if_neg (by omega), if_pos h5]
    · rw [if_neg h5, up_at]
      by_cases h2 : k = 2
      · rw [if_pos h2, if_pos h2]
      · rw [if_neg h2, if_neg h2, if_neg h5]; exact g1 k a b
theorem Rrw_o (h : ∀ k : Int, 0 ≤ k → k < 308 → I 201 k = if k = 2 then 1000 else if k = 5 then 10 else 0) : Rrw I 201 0 oV := by
  refine ⟨?_, ?_, fun i a b => ?_, fun q => ?_, fun k a b => ?_, fun k a b => ?_, trivial, trivial, trivial, fun s a b => ?_⟩
  · rw [h 0 (by omega) (by omega)]; rfl
  · rw [h (0 + 1) (by omega) (by omega)]; rfl
  · rw [h _ (by omega) (by omega)]
    show _ = if i = 0 then 1000 else if i = 3 then 10 else 0
    by_cases h0 : i = 0
    · rw [if_pos (by omega), if_pos h0]
    · rw [if_neg (by omega), if_neg h0]
      by_cases h3 : i = 3
      · rw [if_pos (by omega), if_pos h3]
      · rw [if_neg (by omega), if_neg h3]
  · have q : (0 : Int) = 1 := q
    omega
  · have b : k < ((0 : Nat) : Int) := b
    omega
  · have b : k < ((0 : Nat) : Int) := b
    omega
  · have b : s < ((0 : Nat) : Int) := b
    omega
theorem Rhr_o (I : IM) (H : Hw) : Rhr I 201 0 0 H := fun k a b => by have b : k < ((0 : Nat) : Int) := b; omega
def Rpp (I I' : IM) : Prop := (∀ q, q < 200 ∨ q = 205 ∨ q = 206 ∨ q = 215 ∨ q = 216 → I' q = I q) ∧ I' 200 31 = I 200 31 ∧ I' 200 0 = 0 ∧ I' 200 20 = 0
theorem rq_parse (h : Rn I V H) (hT : Ty I 20 215 (l.map sb)) (hB : By l)
    (h1 : ∀ P, prs l = .inr P → ∀ I' : IM, Rpp I I' → Rrw I' 201 0 P.1 → Rhr I' 201 0 (vm P.1) P.2.1 → I' 200 7 = 0 → I' 200 8 = 0 → I' 200 27 = 0 → I' 200 28 = -1 → Q (.inl (some (.int (i32 (vm P.1))))) (ME e I' J))
    (h2 : ∀ c s : Nat, prs l = .inl (c, s) → ∀ I' : IM, Rpp I I' → (∀ k : Int, 0 ≤ k → k < 308 → I' 201 k = I 201 k) → I' 200 7 = I 200 7 → I' 200 8 = I 200 8 → I' 200 27 = c → I' 200 28 = s → Q (.inl (some (.int (i32 (-1))))) (ME e I' J)) :
    SX11_parse [.ref 200] (ME e I J) Q := by
  refine x_in (Nat.le_of_ble_eq_true rfl) ?_
  dsimp only [bX11_parse, bX11_parse_0]
  ((try rw [show (0 : Int32) = i32 (0) from rfl]); (try rw [show (-1 : Int32) = i32 (-1) from rfl]); (try simp only [i32_add, i32_sub, i32_mul, i32_neg]))
  obtain ⟨hG, hGH, hHB, hW, hH⟩ := h
  have b900 := hB.1
  have z0 : ((0 : Nat) : Int) = 0 := rfl
  refine x_pI rfl (x_pI rfl (x_pI rfl (x_gR rfl rfl (x_gR rfl rfl (x_cV (sp_X11_copies (r := 201) (w := 204) rfl rfl (by omega) fun I1 f1 c1 => ?_))))))
  refine x_ob rfl (x_cV (sp_X11_resets fun I2 f2 c2 => x_pI rfl (x_gI rfl ?_)))
  have e20 : (up I2 200 ((29 : Nat) : Int) 0) 200 ((20 : Nat) : Int) = (l.length : Int) := by
    rw [up_k (by omega), f2 200 (by omega), f1 200 (by omega), up_k (by omega), up_k (by omega), up_k (by omega)]
    have := hT.1; rw [List.length_map] at this; exact this
  rw [e20]
  refine x_pI rfl (x_pI rfl (x_pI rfl ?_))
  -- the state before the first token
  have r201 : ∀ q, q ≠ 200 → (up (up (up (up I2 200 ((29 : Nat) : Int) 0) 200 ((21 : Nat) : Int) l.length) 200 ((20 : Nat) : Int) 0) 200 ((22 : Nat) : Int) 0) q = I2 q := fun q a => by rw [up_qf a, up_qf a, up_qf a, up_qf a]
  have r200 : ∀ k : Int, k ≠ 20 → k ≠ 21 → k ≠ 22 → k ≠ 29 → (up (up (up (up I2 200 ((29 : Nat) : Int) 0) 200 ((21 : Nat) : Int) l.length) 200 ((20 : Nat) : Int) 0) 200 ((22 : Nat) : Int) 0) 200 k = I2 200 k := fun k a b c d => by rw [up_k (show k ≠ ((22 : Nat) : Int) from c), up_k (show k ≠ ((20 : Nat) : Int) from a), up_k (show k ≠ ((21 : Nat) : Int) from b), up_k (show k ≠ ((29 : Nat) : Int) from d)]
  have s20 : (up (up (up (up I2 200 ((29 : Nat) : Int) 0) 200 ((21 : Nat) : Int) l.length) 200 ((20 : Nat) : Int) 0) 200 ((22 : Nat) : Int) 0) 200 20 = 0 := by rw [up_k (by omega), show ((20 : Nat) : Int) = 20 from rfl, up_self]
  have s21 : (up (up (up (up I2 200 ((29 : Nat) : Int) 0) 200 ((21 : Nat) : Int) l.length) 200 ((20 : Nat) : Int) 0) 200 ((22 : Nat) : Int) 0) 200 21 = l.length := by rw [up_k (by omega), up_k (by omega), show ((21 : Nat) : Int) = 21 from rfl, up_self]
  have s22 : (up (up (up (up I2 200 ((29 : Nat) : Int) 0) 200 ((21 : Nat) : Int) l.length) 200 ((20 : Nat) : Int) 0) 200 ((22 : Nat) : Int) 0) 200 22 = 0 := by rw [show ((22 : Nat) : Int) = 22 from rfl, up_self]
  have s29 : (up (up (up (up I2 200 ((29 : Nat) : Int) 0) 200 ((21 : Nat) : Int) l.length) 200 ((20 : Nat) : Int) 0) 200 ((22 : Nat) : Int) 0) 200 29 = 0 := by rw [up_k (by omega), up_k (by omega), up_k (by omega), show ((29 : Nat) : Int) = 29 from rfl, up_self]
  generalize up (up (up (up I2 200 ((29 : Nat) : Int) 0) 200 ((21 : Nat) : Int) l.length) 200 ((20 : Nat) : Int) 0) 200 ((22 : Nat) : Int) 0 = I3 at *
  have g : ∀ k : Int, k ≠ 0 → k ≠ 27 → k ≠ 28 → k ≠ 20 → k ≠ 21 → k ≠ 22 → k ≠ 29 → I3 200 k = I 200 k := fun k a b c d x y z => by
    rw [r200 k d x y z, f2 200 (by omega), f1 200 (by omega), up_k (show k ≠ ((28 : Nat) : Int) from c), up_k (show k ≠ ((27 : Nat) : Int) from b), up_k (show k ≠ ((0 : Nat) : Int) from a)]
  have gq : ∀ q, q ≠ 200 → q ≠ 201 → q ≠ 204 → I3 q = I q := fun q a b c => by rw [r201 q a, f2 q b, f1 q c, up_qf a, up_qf a, up_qf a]
  have t27 : I3 200 27 = 0 := by rw [r200 27 (by omega) (by omega) (by omega) (by omega), f2 200 (by omega), f1 200 (by omega), up_k (by omega), show ((27 : Nat) : Int) = 27 from rfl, up_self]
  have t28 : I3 200 28 = -1 := by rw [r200 28 (by omega) (by omega) (by omega) (by omega), f2 200 (by omega), f1 200 (by omega), show ((28 : Nat) : Int) = 28 from rfl, up_self]
  have t0 : I3 200 0 = 0 := by rw [r200 0 (by omega) (by omega) (by omega) (by omega), f2 200 (by omega), f1 200 (by omega), up_k (by omega), up_k (by omega), z0, up_self]
  have row4 : ∀ k : Int, 0 ≤ k → k < 308 → I3 204 k = I 201 k := fun k a b => by rw [r201 204 (by omega), f2 204 (by omega), c1 k a b, up_q (by omega), up_q (by omega), up_q (by omega)]
  have P3 : Pt I3 l := ⟨s21, fun k hk => by rw [gq 215 (by omega) (by omega) (by omega)]; exact hT.ts k hk, hB⟩
  have W3 : Rrw I3 201 0 oV := Rrw_o fun k a b => by rw [r201 201 (by omega)]; exact c2 k a b
  refine x_ob rfl (x_cV (sp_X11_next P3 (p := 0) (Nat.zero_le _) s22 fun I4 n4 t4 => ?_))
  have P4 : PR I4 l oV oH (fun _ => 0) (tk l 0) := ⟨n4.pt P3, W3.keep (n4.1 201 (by omega)), Rhr_o _ _, by rw [n4.2 29 (by omega)]; exact s29, t4, by rw [n4.2 27 (by omega)]; exact t27, by rw [n4.2 28 (by omega)]; exact t28⟩
  have fr4 : FR I3 I4 := n4.fr
  -- what the end sees
  have fin : ∀ I' : IM, FR I4 I' → (∀ q, q < 200 ∨ q = 205 ∨ q = 206 ∨ q = 215 ∨ q = 216 → I' q = I q) ∧ I' 200 31 = I 200 31 ∧ I' 200 0 = 0 ∧ I' 200 20 = 0 ∧ I' 200 7 = I 200 7 ∧ I' 200 8 = I 200 8 ∧ ∀ k : Int, 0 ≤ k → k < 308 → I' 204 k = I 201 k := by
    intro I' f'
    have f5 := fr4.trans f'
    refine ⟨fun q hq => by rw [f5.1 q (by omega) (by omega), gq q (by omega) (by omega) (by omega)], ?_, ?_, ?_, ?_, ?_, fun k a b => by rw [f5.1 204 (by omega) (by omega)]; exact row4 k a b⟩
    · rw [f5.2 31 (by omega), g 31 (by omega) (by omega) (by omega) (by omega) (by omega) (by omega) (by omega)]
    · rw [f5.2 0 (by omega)]; exact t0
    · rw [f5.2 20 (by omega)]; exact s20
    · rw [f5.2 7 (by omega), g 7 (by omega) (by omega) (by omega) (by omega) (by omega) (by omega) (by omega)]
    · rw [f5.2 8 (by omega), g 8 (by omega) (by omega) (by omega) (by omega) (by omega) (by omega) (by omega)]
  refine rp_loop 901 oV oH (fun _ => 0) (tk l 0) I4 (by omega) P4 GP_0 (fun P hp I5 f5 P5 => fx_in ?_) (fun c s hp I5 f5 b5 => fx_in ?_)
  · dsimp only [bX11_parse, bX11_parse_2]
    ((try rw [show (0 : Int32) = i32 (0) from rfl]); (try rw [show (-1 : Int32) = i32 (-1) from rfl]); (try simp only [i32_add, i32_sub, i32_mul, i32_neg]))
    obtain ⟨k1, k2, k3, k4, k5, k6, k7⟩ := fin I5 f5
    refine x_ob rfl (x_cI (fn_fine P5.2.2.2.2.2.1 (x_eq (by omega) (by omega) (fun h => by omega) (fun _ => x_pI rfl (x_pZ rfl (by omega) ?_)))))
    have W6 : Rrw (up (up I5 200 ((7 : Nat) : Int) 0) 200 ((8 : Nat) : Int) 0) 201 0 P.1 := P5.2.1.keep (by rw [up_qf (by omega), up_qf (by omega)])
    refine x_ob rfl (x_cI (sp_X11_marks W6 (x_rI (h1 P hp _ ⟨fun q hq => ?_, ?_, ?_, ?_⟩ W6 (P5.2.2.1.keep (by rw [up_qf (by omega), up_qf (by omega)])) ?_ ?_ ?_ ?_))))
    · rw [up_qf (by omega), up_qf (by omega)]; exact k1 q hq
    · rw [up_k (by omega), up_k (by omega)]; exact k2
    · rw [up_k (by omega), up_k (by omega)]; exact k3
    · rw [up_k (by omega), up_k (by omega)]; exact k4
    · rw [up_k (by omega), show ((7 : Nat) : Int) = 7 from rfl, up_self]
    · rw [show ((8 : Nat) : Int) = 8 from rfl, up_self]
    · rw [up_k (by omega), up_k (by omega)]; exact P5.2.2.2.2.2.1
    · rw [up_k (by omega), up_k (by omega)]; exact P5.2.2.2.2.2.2
  · dsimp only [bX11_parse, bX11_parse_2]
    ((try rw [show (0 : Int32) = i32 (0) from rfl]); (try rw [show (-1 : Int32) = i32 (-1) from rfl]); (try simp only [i32_add, i32_sub, i32_mul, i32_neg]))
    obtain ⟨k1, k2, k3, k4, k5, k6, k7⟩ := fin I5 f5
    refine x_ob rfl (x_cI (bd_fine b5 (x_eq (by omega) (by omega) (fun _ => x_gR rfl rfl (x_gR rfl rfl (x_cV (sp_X11_copies (r := 204) (w := 201) rfl rfl (by omega) fun I6 f6 c6 => x_rI (h2 c s hp I6 ⟨fun q hq => ?_, ?_, ?_, ?_⟩ (fun k a b => ?_) ?_ ?_ ?_ ?_))))) (fun h => absurd rfl h))))
    · rw [f6 q (by omega)]; exact k1 q hq
    · rw [f6 200 (by omega)]; exact k2
    · rw [f6 200 (by omega)]; exact k3
    · rw [f6 200 (by omega)]; exact k4
    · rw [c6 k a b]; exact k7 k a b
    · rw [f6 200 (by omega)]; exact k5
    · rw [f6 200 (by omega)]; exact k6
    · rw [f6 200 (by omega)]; exact b5.1
    · rw [f6 200 (by omega)]; exact b5.2.1
end St61g
