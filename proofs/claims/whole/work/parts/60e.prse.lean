/-! ===== the class's Reader ===== -/
def FC (I I' : IM) : Prop := ∀ q, q < 153 ∨ 169 < q → I' q = I q
def PC (I : IM) (l : List Int) (V : Vw) (H : Hw) (o : Nat → Int) (t : Tk) : Prop := Tx I 1 2 l ∧ By l ∧ Qw I ∧ Rst I 157 V ∧ Rht I 157 H ∧ Rwl I 154 V ∧ (∀ i : Nat, i < 5 → I 168 i = o i) ∧ Tc I t ∧ I 153 4 = 0 ∧ I 153 5 = -1
theorem FC.trans {I I' I2 : IM} (h : FC I I') (h2 : FC I' I2) : FC I I2 := fun q a => by rw [h2 q a, h q a]
theorem FC.refl (I : IM) : FC I I := fun _ _ => rfl
/-- what a fault leaves -/
def Fz (S : ST) (as : List Value) (e : Nat) (I J : IM) (l : List Int) (r : Er ⊕ Ps) : Prop := ∀ Q : Post, (∀ P, r = .inr P → ∀ I' : IM, FC I I' → PC I' l P.1 P.2.1 P.2.2.1 P.2.2.2 → Q (.inl (some (.int (i32 1)))) (ME e I' J)) → (∀ c o : Nat, r = .inl (c, o) → ∀ I' : IM, FC I I' → I' 153 4 = c → I' 153 5 = o → Q (.inl (some (.int (i32 0)))) (ME e I' J)) → S as (ME e I J) Q
theorem wl154 (e : Nat) : wlP e 154 := ⟨rfl, rfl, rfl, rfl, rfl⟩
section Rd60
variable {e : Nat} {I J : IM} {Q : Post} {V : Vw} {H : Hw} {a b v : Int} {l : List Int} {o : Nat → Int} {t : Tk}
theorem PC.tok {I' : IM} {t' : Tk} (h : PC I l V H o t) (f : ∀ q, q ≠ 169 → q ≠ 153 → I' q = I q) (ht : Tc I' t') (h9 : I' 153 4 = I 153 4 ∧ I' 153 5 = I 153 5) : PC I' l V H o t' := by
  obtain ⟨a1, a2, a3, a4, a5, a6, a7, a8, a9⟩ := h
  refine ⟨a1.keep (f 1 (by omega) (by omega)) (f 2 (by omega) (by omega)), a2, fun i hi => by rw [f 170 (by omega) (by omega)]; exact a3 i hi, a4.keep fun d hd => f _ (by omega) (by omega), a5.keep fun d hd => f _ (by omega) (by omega), a6.keep fun d hd => f _ (by omega) (by omega), fun i hi => by rw [f 168 (by omega) (by omega)]; exact a7 i hi, ht, by rw [h9.1, h9.2]; exact a9⟩
theorem Tc.keep {I' : IM} (h : Tc I t) (f : I' 169 = I 169) : Tc I' t := by unfold Tc at *; rw [f]; exact h
theorem sp_X5_fail {c s : Nat} (h : I 169 3 = s) (hQ : Q (.inl (some (.int (i32 0)))) (ME e (up (up I 153 4 c) 153 5 s) J)) : SX5_fail [.ref 153, .int (i32 c)] (ME e I J) Q := by
  refine x_in (Nat.le_of_ble_eq_true rfl) ?_
  dsimp only [bX5_fail, bX5_fail_0]
  ((try rw [show (0 : Int32) = i32 (0) from rfl]); (try simp only [i32_add, i32_sub, i32_mul, i32_neg]))
  refine x_pI rfl (x_gR rfl rfl (x_gI rfl ?_))
  rw [up_q (by omega), show I 169 ((3 : Nat) : Int) = (s : Int) from h]
  exact x_pI rfl (x_rZ (by omega) hQ)
/-- a fault, told at once -/
theorem fz {c s : Nat} {F : Int32 → Sem} (h : I 169 3 = s) (hF : ∀ I' : IM, FC I I' → I' 153 4 = c → I' 153 5 = s → F (i32 0) (ME e I' J) Q) : (ob 5 153 (cI SX5_fail [.ref 153, .int (i32 c)] F)) (ME e I J) Q :=
  x_ob rfl (x_cI (sp_X5_fail h (hF _ (fun q a => by rw [up_qf (by omega), up_qf (by omega)]) (by rw [up_k (by omega), up_self]) up_self)))
theorem c_adv {F : Sem} (hP : PC I l V H o t) (hT : okT l t) (hF : ∀ I' : IM, FC I I' → PC I' l V H o (nxt l t) → (∀ k, I' 153 k = I 153 k) → F (ME e I' J) Q) : (gR 5 0 153 fun r => ob 8 r (cV SX8_advance [.ref r] F)) (ME e I J) Q := by
  refine x_gR rfl rfl (x_ob rfl (x_cV (sp_X8_advance hP.1 hP.2.1 hP.2.2.1 hT.f.2.1 hP.2.2.2.2.2.2.2.1.2.2.1 fun I1 f1 t1 => ?_)))
  exact hF I1 (fun q a => f1 q (by omega)) (hP.tok (fun q a b => f1 q a) t1 (by rw [f1 153 (by omega)]; exact ⟨rfl, rfl⟩)) (fun k => by rw [f1 153 (by omega)])
theorem PC.k (hP : PC I l V H o t) : I 169 ((2 : Nat) : Int) = (tK t : Int) := hP.2.2.2.2.2.2.2.1.1
theorem PC.s (hP : PC I l V H o t) : I 169 3 = (tS t : Int) := hP.2.2.2.2.2.2.2.1.2.1
theorem PC.w (hP : PC I l V H o t) (h : tK t = 11) : I 169 ((5 : Nat) : Int) = enc 32 (tN t) := hP.2.2.2.2.2.2.2.1.2.2.2.1 h
theorem PC.vl (hP : PC I l V H o t) (h : tK t = 12) : I 169 ((6 : Nat) : Int) = tV t := hP.2.2.2.2.2.2.2.1.2.2.2.2 h
theorem sp_X5_readNumber {sg : Bool} {lo hi : Int} (hlo : -1000000 ≤ lo ∧ lo ≤ 1000000) (hhi : -1000000 ≤ hi ∧ hi ≤ 1000000) (hP : PC I l V H o t) (hT : okT l t)
    (h1 : ∀ x, numb l t sg lo hi = .inr x → ∀ I' : IM, FC I I' → PC I' l V H o x.2 → I' 153 6 = x.1 → Q (.inl (some (.int (i32 1)))) (ME e I' J))
    (h2 : ∀ c s : Nat, numb l t sg lo hi = .inl (c, s) → ∀ I' : IM, FC I I' → I' 153 4 = c → I' 153 5 = s → Q (.inl (some (.int (i32 0)))) (ME e I' J)) :
    SX5_readNumber [.ref 153, .int (i32 (if sg = true then 1 else 0)), .int (i32 lo), .int (i32 hi)] (ME e I J) Q := by
  refine x_in (Nat.le_of_ble_eq_true rfl) ?_
  dsimp only [bX5_readNumber, bX5_readNumber_0]
  ((try rw [show (0 : Int32) = i32 (0) from rfl]); (try rw [show (1 : Int32) = i32 (1) from rfl]); (try rw [show (13 : Int32) = i32 (13) from rfl]); (try simp only [i32_add, i32_sub, i32_mul, i32_neg]))
  -- the number itself
  have key : ∀ (I1 : IM) (t1 : Tk) (ng : Int), (ng = 0 ∨ ng = 1) → FC I I1 → PC I1 l V H o t1 → okT l t1 → numT l t sg = t1 → (tK t1 = 12 → numV l t sg = if ng = 0 then tV t1 else -tV t1) → fx bX5_readNumber 1 [.ref 153, .int (i32 lo), .int (i32 hi), .int (i32 ng)] (ME e I1 J) Q := by
    intro I1 t1 ng h01 f1 P1 T1 e1 e2
    refine fx_in ?_
    dsimp only [bX5_readNumber, bX5_readNumber_1]
    ((try rw [show (0 : Int32) = i32 (0) from rfl]); (try rw [show (1 : Int32) = i32 (1) from rfl]); (try rw [show (12 : Int32) = i32 (12) from rfl]); (try simp only [i32_add, i32_sub, i32_mul, i32_neg]))
    have f := T1.f
    unfold numb at h1 h2
    rw [e1] at h1 h2
    have two : (2 : Int32) = i32 ((2 : Nat) : Int) := rfl
    have one : i32 1 = i32 ((1 : Nat) : Int) := rfl
    refine x_gR rfl rfl (x_gI rfl ?_)
    rw [P1.k]
    refine x_eq (by omega) (by omega) (fun h => ?_) (fun h => ?_)
    · have h : tK t1 = 12 := by omega
      rw [if_pos h, e2 h] at h1 h2
      have fv := f.2.2.2.2.2 h
      -- behind the number
      have tail : ∀ I2 : IM, FC I I2 → PC I2 l V H o t1 → I2 153 6 = (if ng = 0 then tV t1 else -tV t1) →
          (gI 5 6 153 fun v5 => br (v5 < i32 lo) (ob 5 153 (cI SX5_fail [.ref 153, .int 2] fun v6 => rZ v6)) (gI 5 6 153 fun v7 => br (v7 ≤ i32 hi) (gR 5 0 153 fun r8 => ob 8 r8 (cV SX8_advance [.ref r8] <| rZ (i32 1))) (ob 5 153 (cI SX5_fail [.ref 153, .int 2] fun v9 => rZ v9)))) (ME e I2 J) Q := by
        intro I2 f2 P2 g6
        have bd : -99999 ≤ (if ng = 0 then tV t1 else -tV t1) ∧ (if ng = 0 then tV t1 else -tV t1) ≤ 99999 := by split <;> omega
        generalize (if ng = 0 then tV t1 else -tV t1) = x at *
        rw [two]
        refine x_gI rfl ?_
        rw [show I2 153 ((6 : Nat) : Int) = x from g6]
        refine x_lt (by omega) (by omega) (fun hl => ?_) (fun hl => x_gI rfl ?_)
        · rw [if_neg (by omega)] at h2
          exact fz P2.s fun I3 f3 a b => x_rZ (by omega) (h2 2 _ rfl I3 (f2.trans f3) a b)
        · rw [show I2 153 ((6 : Nat) : Int) = x from g6]
          refine x_le (by omega) (by omega) (fun hh => ?_) (fun hh => ?_)
          · rw [if_pos ⟨hl, hh⟩] at h1
            exact c_adv P2 T1 fun I3 f3 P3 k3 => x_rZ (by omega) (h1 _ rfl I3 (f2.trans f3) P3 (by rw [k3]; exact g6))
          · rw [if_neg (by omega)] at h2
            exact fz P2.s fun I3 f3 a b => x_rZ (by omega) (h2 2 _ rfl I3 (f2.trans f3) a b)
      refine x_eq (by omega) (by omega) (fun hn => x_gR rfl rfl (x_gI rfl ?_)) (fun hn => x_gR rfl rfl (x_gI rfl ?_))
      · rw [P1.vl h]
        refine x_pI rfl (tail _ (fun q a => by rw [up_qf (by omega), f1 q a]) (P1.tok (fun q a b => up_qf b) (P1.2.2.2.2.2.2.2.1.keep (up_qf (by omega))) ⟨by rw [up_k (by omega)], by rw [up_k (by omega)]⟩) ?_)
        rw [if_pos hn, show ((6 : Nat) : Int) = 6 from rfl, up_self]
      · rw [P1.vl h, i32_neg]
        refine x_pI rfl (tail _ (fun q a => by rw [up_qf (by omega), f1 q a]) (P1.tok (fun q a b => up_qf b) (P1.2.2.2.2.2.2.2.1.keep (up_qf (by omega))) ⟨by rw [up_k (by omega)], by rw [up_k (by omega)]⟩) ?_)
        rw [if_neg hn, show ((6 : Nat) : Int) = 6 from rfl, up_self]
    · rw [if_neg (by omega)] at h2
      rw [one]
      exact fz P1.s fun I3 f3 a b => x_rZ (by omega) (h2 1 _ rfl I3 (f1.trans f3) a b)
  cases sg
  · refine x_brr (by trivial) (x_brr (by trivial) ?_)
    exact key I t 0 (by omega) (FC.refl I) hP hT (by simp [numT]) (fun _ => by simp [numV])
  · have f0 := hT.f
    refine x_eq (by decide) (by omega) (fun h => absurd h (by decide)) (fun _ => x_gR rfl rfl (x_gI rfl ?_))
    rw [hP.k]
    refine x_eq (by omega) (by omega) (fun hk => ?_) (fun hk => ?_)
    · have hk : tK t = 13 := by omega
      refine x_eq (by omega) (by omega) (fun h => by omega) (fun _ => ?_)
      refine c_adv hP hT fun I1 f1 P1 k1 => key I1 (nxt l t) 1 (by omega) f1 P1 hT.nxt (by simp [numT, hk]) (fun _ => by simp [numV, hk])
    · have hk : tK t ≠ 13 := by omega
      refine x_brr (by trivial) ?_
      exact key I t 0 (by omega) (FC.refl I) hP hT (by simp [numT, hk]) (fun _ => by simp [numV, hk])
theorem inl_eq {α β : Type} {x : α} {r : α ⊕ β} {y : α} (h : r = .inl x) (h2 : r = .inl y) : x = y := by rw [h] at h2; injection h2
theorem sp_X5_readMark (hP : PC I l V H o t) (hG : GP l (V, H, o, t)) (he : e ∈ stLs) : Fz SX5_readMark [.ref 153] e I J l (rdMark l (V, H, o, t)) := by
  intro Q h1 h2
  obtain ⟨gG, gGH, gHB, go, hT⟩ := hG
  refine x_in (Nat.le_of_ble_eq_true rfl) ?_
  dsimp only [bX5_readMark, bX5_readMark_0]
  unfold rdMark at h1 h2
  dsimp only at h1 h2 gG gGH gHB go hT
  have k1 : (1 : Int32) = i32 ((1 : Nat) : Int) := rfl
  have k3 : (3 : Int32) = i32 ((3 : Nat) : Int) := rfl
  have k5 : (5 : Int32) = i32 ((5 : Nat) : Int) := rfl
  have k0 : (0 : Int32) = i32 0 := rfl
  have k11 : (11 : Int32) = i32 11 := rfl
  have k12 : (12 : Int32) = i32 12 := rfl
  have km1 : (-1 : Int32) = i32 (-1) := rfl
  have kb : (-99999 : Int32) = i32 (-99999) := rfl
  have ka : (99999 : Int32) = i32 99999 := rfl
  rw [kb, ka, km1, k0, k11, k12, k3, k5, k1]
  have m12 := gG.1
  have T1 := hT.nxt
  have T2 := T1.nxt
  have T3 := T2.nxt
  have f1 := T1.f
  have f2 := T2.f
  have f3 := T3.f
  refine x_gR rfl rfl (x_gI rfl ?_)
  rw [show I 154 ((0 : Nat) : Int) = (vm V : Int) from hP.2.2.2.2.2.1.1]
  refine x_lt (by omega) (by omega) (fun c1 => ?_) (fun c1 => ?_)
  · rw [if_pos (by omega)] at h1 h2
    refine c_adv hP hT fun I1 g1 P1 _ => x_gR rfl rfl (x_gI rfl ?_)
    rw [P1.k]
    refine x_eq (by omega) (by omega) (fun c2 => ?_) (fun c2 => ?_)
    · have c2 : tK (nxt l t) = 11 := by omega
      rw [if_pos c2] at h1 h2
      have wok := f1.2.2.2.2.1 c2
      have wb := enc_bd _ wok
      refine x_gR rfl rfl (x_gR rfl rfl (x_gI rfl ?_))
      rw [P1.w c2]
      refine x_ob rfl (x_cI (sp_X9_named (wl154 e) gG.1 (fun k a b => gd_nm gG a b) P1.2.2.2.2.2.1 (by omega) ?_))
      rw [fnd_fnN wok _ (fun k a b => gd_nm gG a b)]
      have fr := fnN_rg V (tN (nxt l t)) (vm V)
      refine x_eq (by omega) (by omega) (fun c3 => ?_) (fun c3 => ?_)
      · rw [if_pos c3] at h1 h2
        refine x_gR rfl rfl (x_gI rfl ?_)
        rw [P1.w c2]
        refine c_adv P1 T1 fun I2 g2 P2 _ => x_gR rfl rfl (x_gI rfl ?_)
        rw [P2.k]
        have g2 := g1.trans g2
        refine x_eq (by omega) (by omega) (fun c4 => ?_) (fun c4 => ?_)
        · have c4 : tK (nxt l (nxt l t)) = 12 := by omega
          rw [if_pos c4] at h1 h2
          have vb := f2.2.2.2.2.2 c4
          refine x_gR rfl rfl (x_gR rfl rfl (x_gI rfl ?_))
          rw [P2.vl c4]
          refine x_ob rfl (x_cI (sp_X9_placedAt (wl154 e) gG.1 (fun k a b => gd_pl gG a b) P2.2.2.2.2.2.1 (by omega) ?_))
          have pr := fnd_rg (vK V 0) (tV (nxt l (nxt l t))) (vm V)
          refine x_eq (by omega) (by omega) (fun c5 => ?_) (fun c5 => ?_)
          · rw [if_pos c5] at h1 h2
            refine x_gR rfl rfl (x_gR rfl rfl (x_gI rfl ?_))
            rw [P2.vl c4]
            refine x_ob rfl (x_cI (sp_X9_add (wl154 e) (by omega) P2.2.2.2.2.2.1 (l := tN (nxt l t)) rfl fun I3 f3 W3 => ?_))
            have P3 : PC I3 l (adM V (tN (nxt l t)) (tV (nxt l (nxt l t)))) H o (nxt l (nxt l t)) := by
              obtain ⟨a1, a2, a3, a4, a5, a6, a7, a8, a9⟩ := P2
              exact ⟨a1.keep (f3 1 (by omega)) (f3 2 (by omega)), a2, fun i hi => by rw [f3 170 (by omega)]; exact a3 i hi, a4.keep fun d hd => f3 _ (by omega), a5.keep fun d hd => f3 _ (by omega), W3, fun i hi => by rw [f3 168 (by omega)]; exact a7 i hi, a8.keep (f3 169 (by omega)), by rw [f3 153 (by omega)]; exact a9⟩
            have g3 : FC I I3 := g2.trans (fun q a => f3 q (by omega))
            refine c_adv P3 T2 fun I4 g4 P4 _ => x_gR rfl rfl (x_gI rfl ?_)
            rw [P4.k]
            have g4 := g3.trans g4
            refine x_eq (by omega) (by omega) (fun c6 => ?_) (fun c6 => ?_)
            · have c6 : tK (nxt l (nxt l (nxt l t))) = 1 := by omega
              rw [if_pos c6] at h1 h2
              refine c_adv P4 T3 fun I5 g5 P5 _ => ?_
              have g5 := g4.trans g5
              refine x_ob rfl (x_cI (sp_X5_readNumber (sg := true) (by omega) (by omega) P5 T3.nxt (fun x hx I6 g6 P6 e6 => ?_) (fun c s hx I6 g6 e4 e5 => ?_)))
              · have nb := numb_ok T3.nxt hx
                rw [hx] at h1
                refine x_eq (by omega) (by omega) (fun h => by omega) (fun _ => x_gR rfl rfl (x_gI rfl ?_))
                rw [show I6 153 ((6 : Nat) : Int) = x.1 from e6]
                refine x_obs st157 (x_cV (sp_X6_makeBench he st157 P6.2.2.2.2.1 (by omega) fun I7 f7 H7 => x_rZ (by decide) (h1 _ rfl I7 ((g5.trans g6).trans fun q a => f7 q (by omega) (by omega) (by omega)) ?_)))
                obtain ⟨a1, a2, a3, a4, a5, a6, a7, a8, a9⟩ := P6
                exact ⟨a1.keep (f7 1 (by omega) (by omega) (by omega)) (f7 2 (by omega) (by omega) (by omega)), a2, fun i hi => by rw [f7 170 (by omega) (by omega) (by omega)]; exact a3 i hi, a4.keepH fun d hd x y z => f7 _ (by omega) (by omega) (by omega), H7, a6.keep fun d hd => f7 _ (by omega) (by omega) (by omega), fun i hi => by rw [f7 168 (by omega) (by omega) (by omega)]; exact a7 i hi, a8.keep (f7 169 (by omega) (by omega) (by omega)), by rw [f7 153 (by omega) (by omega) (by omega)]; exact a9⟩
              · rw [hx] at h2
                refine x_eq (by omega) (by omega) (fun _ => x_rZ (by omega) (h2 c s rfl I6 (g5.trans g6) e4 e5)) (fun h => absurd rfl h)
            · rw [if_neg (by omega)] at h1
              exact x_rZ (by decide) (h1 _ rfl I4 g4 P4)
          · rw [if_neg c5] at h2
            exact fz P2.s fun I3 f3 a b => x_rZ (by omega) (h2 3 _ rfl I3 (g2.trans f3) a b)
        · rw [if_neg (by omega)] at h2
          exact fz P2.s fun I3 f3 a b => x_rZ (by omega) (h2 1 _ rfl I3 (g2.trans f3) a b)
      · rw [if_neg c3] at h2
        exact fz P1.s fun I3 f3 a b => x_rZ (by omega) (h2 3 _ rfl I3 (g1.trans f3) a b)
    · rw [if_neg (by omega)] at h2
      exact fz P1.s fun I3 f3 a b => x_rZ (by omega) (h2 1 _ rfl I3 (g1.trans f3) a b)
  · rw [if_neg (by omega)] at h2
    exact fz hP.s fun I3 f3 a b => x_rZ (by omega) (h2 5 _ rfl I3 f3 a b)
end Rd60
