/-! ===== the input: fed, cut ===== -/
/-- a byte as a signed one -/
def sb (c : Int) : Int := if c < 128 then c else c - 256
def byt (w : Int) (j : Nat) : Int := w / 2 ^ (24 - 8 * j) % 256
def four (w : Int) : List Int := [byt w 0, byt w 1, byt w 2, byt w 3]
def fdl (a b c d e : Int) : List Int := (((four a ++ four b) ++ four c) ++ four d) ++ four e
theorem i32_mod (w : Int) : i32 (w % 4294967296) = i32 w := by
  apply Int32.toBitVec_inj.mp
  show BitVec.ofInt 32 (w % 4294967296) = BitVec.ofInt 32 w
  apply BitVec.eq_of_toInt_eq
  rw [BitVec.toInt_ofInt, BitVec.toInt_ofInt]
  exact Int.emod_bmod ..
theorem i32_and255 {a : Int} (h0 : 0 ≤ a) (h1 : a < 4294967296) : i32 a &&& 255 = i32 (a % 256) := by
  apply Int32.toBitVec_inj.mp
  apply BitVec.eq_of_toNat_eq
  rw [Int32.toBitVec_and, BitVec.toNat_and, i32_nat h0 h1, i32_nat (by omega) (by omega)]
  rw [show (255 : Int32).toBitVec.toNat = 2 ^ 8 - 1 from rfl, Nat.and_two_pow_sub_one_eq_mod]
  omega
theorem byt_cl {w : Int} (j : Nat) (hj : j < 3) : ((Int32.toUInt32 (i32 w)) >>> ((Int32.toUInt32 (i32 ((24 - 8 * j : Nat) : Int))) &&& Int32.toUInt32 31)).toInt32 &&& 255 = i32 (byt w j) := by
  rw [← i32_mod w, i32_ushr _ (by omega) (by omega) (by omega)]
  have h : 0 ≤ w % 4294967296 ∧ w % 4294967296 < 4294967296 := by omega
  have p : 1 ≤ 2 ^ (24 - 8 * j) := Nat.pow_pos (by omega)
  have pp : (((2 : Nat) ^ (24 - 8 * j) : Nat) : Int) = (2 : Int) ^ (24 - 8 * j) := by simp
  have b1 : 0 ≤ w % 4294967296 / 2 ^ (24 - 8 * j) := Int.ediv_nonneg h.1 (by omega)
  have b2 : w % 4294967296 / 2 ^ (24 - 8 * j) ≤ w % 4294967296 := Int.ediv_le_self _ h.1
  rw [i32_and255 b1 (by omega)]
  unfold byt
  congr 1
  match j, hj with
  | 0, _ => show w % 4294967296 / 16777216 % 256 = w / 16777216 % 256; omega
  | 1, _ => show w % 4294967296 / 65536 % 256 = w / 65536 % 256; omega
  | 2, _ => show w % 4294967296 / 256 % 256 = w / 256 % 256; omega
theorem byt_cl3 {w : Int} : i32 w &&& 255 = i32 (byt w 3) := by
  rw [← i32_mod w, i32_and255 (by omega) (by omega)]
  congr 1
  show w % 4294967296 % 256 = w / 1 % 256
  omega
theorem byt_rg (w : Int) (j : Nat) : 0 ≤ byt w j ∧ byt w j < 256 := by unfold byt; omega
theorem sb_rg {c : Int} (h : 0 ≤ c ∧ c < 256) : -128 ≤ sb c ∧ sb c < 128 := by unfold sb; split <;> omega
theorem nar_sb {c : Int} (h : -128 ≤ c ∧ c < 128) : vp_nar .byte (i32 c) = i32 c := by
  have key : ∀ k : Nat, k < 256 → vp_nar .byte (i32 ((k : Int) - 128)) = i32 ((k : Int) - 128) := by decide +kernel
  have := key (c + 128).toNat (by omega)
  rwa [Int.toNat_of_nonneg (by omega), show c + 128 - 128 = c by omega] at this
theorem byt_rf {w : Int} (hw : IR w) (j : Nat) (hj : j < 4) : (i32 w >>> (i32 ((24 - 8 * j : Nat) : Int) &&& 31)).toInt8.toInt32 = i32 (sb (byt w j)) := by
  unfold IR at hw
  have s : ∀ j : Nat, j < 4 → ((i32 ((24 - 8 * j : Nat) : Int) &&& 31).toBitVec.smod 32).toNat = 24 - 8 * j := by decide +kernel
  have e : (i32 w >>> (i32 ((24 - 8 * j : Nat) : Int) &&& 31)).toInt = w / ((2 ^ (24 - 8 * j) : Nat) : Int) := by
    show (i32 w >>> (i32 ((24 - 8 * j : Nat) : Int) &&& 31)).toBitVec.toInt = _
    rw [Int32.toBitVec_shiftRight]
    show ((i32 w).toBitVec.sshiftRight ((i32 ((24 - 8 * j : Nat) : Int) &&& 31).toBitVec.smod 32).toNat).toInt = _
    rw [BitVec.toInt_sshiftRight, s j hj, Int.shiftRight_eq_div_pow, show (i32 w).toBitVec.toInt = w from i32_toInt hw.1 hw.2]
  have r := sb_rg (byt_rg w j)
  apply Int32.toInt_inj.mp
  rw [Int8.toInt_toInt32, Int32.toInt_toInt8, e, i32_toInt (by omega) (by omega), Int.bmod_def]
  unfold sb byt
  rw [show ((2 ^ (24 - 8 * j) : Nat) : Int) = 2 ^ (24 - 8 * j) by simp]
  simp only [show (((2 : Nat) ^ 8 : Nat) : Int) = 256 from rfl]
  generalize w / 2 ^ (24 - 8 * j) = y
  split <;> split <;> omega
theorem map_sb_push (l : List Int) (c : Int) : l.map sb ++ [sb c] = (l ++ [c]).map sb := by simp
section Inp59
variable {e : Nat} {I J : IM} {Q : Post} {V : Vw} {H : Hw} {a b c d f v s : Int} {l : List Int}
theorem i_add {x : Int32} (hx : x &&& 255 = i32 c) (hT : Tx I 1 2 l) (hl : l.length < 900) (hQ : ∀ I' : IM, (∀ q, q ≠ 1 → q ≠ 2 → I' q = I q) → Tx I' 1 2 (l ++ [c]) → Q (.inl none) (ME e I' J)) : SX7_add [.ref 1, .int x] (ME e I J) Q := by
  refine x_in (Nat.le_of_ble_eq_true rfl) ?_
  dsimp only [bX7_add, bX7_add_0]
  have h1 : I 1 ((1 : Nat) : Int) = (l.length : Int) := hT.1
  refine x_gI rfl ?_
  rw [h1]
  refine x_gR rfl rfl (x_aL (n := 900) rfl (Or.inl rfl) ?_)
  refine x_lt (by omega) (by omega) (fun _ => ?_) (fun h => by omega)
  refine x_gR rfl rfl (x_gI rfl ?_)
  rw [h1, hx]
  refine x_cV (sp_X10_put (n := 900) rfl (by omega) (by omega) (by omega) (by omega) ?_)
  refine x_gI rfl ?_
  rw [up_q (by omega), h1, show (1 : Int32) = i32 1 from rfl, i32_add]
  refine x_pI rfl (x_rV (hQ _ (fun q a b => by rw [up_qf a, up_qf b]) (Tx_push hT (by omega))))
theorem sp_X7_addFour {w : Int} (hT : Tx I 1 2 l) (hl : l.length + 4 ≤ 900) (hQ : ∀ I' : IM, (∀ q, q ≠ 1 → q ≠ 2 → I' q = I q) → Tx I' 1 2 (l ++ four w) → Q (.inl none) (ME e I' J)) : SX7_addFour [.ref 1, .int (i32 w)] (ME e I J) Q := by
  refine x_in (Nat.le_of_ble_eq_true rfl) ?_
  dsimp only [bX7_addFour, bX7_addFour_0]
  refine x_ob rfl (x_cV (i_add (c := byt w 0) (byt_cl 0 (by omega)) hT (by omega) fun I1 f1 T1 => ?_))
  refine x_ob rfl (x_cV (i_add (c := byt w 1) (byt_cl 1 (by omega)) T1 (by simp; omega) fun I2 f2 T2 => ?_))
  refine x_ob rfl (x_cV (i_add (c := byt w 2) (byt_cl 2 (by omega)) T2 (by simp; omega) fun I3 f3 T3 => ?_))
  refine x_ob rfl (x_cV (i_add (c := byt w 3) byt_cl3 T3 (by simp; omega) fun I4 f4 T4 => x_rV (hQ I4 (fun q a b => by rw [f4 q a b, f3 q a b, f2 q a b, f1 q a b]) ?_)))
  rw [show l ++ four w = l ++ [byt w 0] ++ [byt w 1] ++ [byt w 2] ++ [byt w 3] by simp [four]]
  exact T4
/-- the class's input and what a call does to it -/
def Ci (S : ST) (as : List Value) (e : Nat) (I J : IM) (l : List Int) (v : Value) : Prop := ∀ Q : Post, (∀ I' : IM, (∀ q, q ≠ 1 → q ≠ 2 → I' q = I q) → Tx I' 1 2 l → Q (.inl (some v)) (ME e I' J)) → S as (ME e I J) Q
/-- the reference's -/
def Fi (I I' : IM) : Prop := (∀ q, q ≠ 200 → q ≠ 215 → I' q = I q) ∧ ∀ k, k ≠ 0 → k ≠ 20 → I' 200 k = I 200 k
def Ri (S : ST) (as : List Value) (e : Nat) (I J : IM) (l : List Int) (v : Value) : Prop := ∀ Q : Post, (∀ I' : IM, Fi I I' → I' 200 0 = 0 → Ty I' 20 215 (l.map sb) → Q (.inl (some v)) (ME e I' J)) → S as (ME e I J) Q
def fdL (l : List Int) (a b c d f : Int) : List Int := if l.length ≤ 880 then l ++ fdl a b c d f else l
def fdA (l : List Int) : Int := if l.length ≤ 880 then (l.length : Int) + 20 else -1
theorem fdl_len (a b c d f : Int) : (fdl a b c d f).length = 20 := rfl
theorem cq_feed (hT : Tx I 1 2 l) (hl : l.length ≤ 900) : Ci SX10_feed [.ref 0, .int (i32 a), .int (i32 b), .int (i32 c), .int (i32 d), .int (i32 f)] e I J (fdL l a b c d f) (.int (i32 (fdA l))) := by
  intro Q hQ
  refine x_in (Nat.le_of_ble_eq_true rfl) ?_
  dsimp only [bX10_feed, bX10_feed_0]
  ((try rw [show (880 : Int32) = i32 (880) from rfl]); (try rw [show (-1 : Int32) = i32 (-1) from rfl]); (try simp only [i32_add, i32_sub, i32_mul, i32_neg]))
  unfold fdL fdA at hQ
  refine x_gR rfl rfl (x_gI rfl ?_)
  rw [show I 1 ((1 : Nat) : Int) = (l.length : Int) from hT.1]
  refine x_le (by omega) (by omega) (fun h => ?_) (fun h => ?_)
  · rw [if_pos (by omega), if_pos (by omega)] at hQ
    refine x_gR rfl rfl (x_ob rfl (x_cV (sp_X7_addFour hT (by omega) fun I1 f1 T1 => ?_)))
    refine x_gR rfl rfl (x_ob rfl (x_cV (sp_X7_addFour T1 (by simp [four]; omega) fun I2 f2 T2 => ?_)))
    refine x_gR rfl rfl (x_ob rfl (x_cV (sp_X7_addFour T2 (by simp [four]; omega) fun I3 f3 T3 => ?_)))
    refine x_gR rfl rfl (x_ob rfl (x_cV (sp_X7_addFour T3 (by simp [four]; omega) fun I4 f4 T4 => ?_)))
    refine x_gR rfl rfl (x_ob rfl (x_cV (sp_X7_addFour T4 (by simp [four]; omega) fun I5 f5 T5 => x_gR rfl rfl (x_gI rfl ?_))))
    have e1 : l ++ four a ++ four b ++ four c ++ four d ++ four f = l ++ fdl a b c d f := by simp [fdl]
    rw [e1] at T5
    have h5 := T5.1
    rw [List.length_append, fdl_len] at h5
    rw [show I5 1 ((1 : Nat) : Int) = (l.length : Int) + 20 by rw [show ((1 : Nat) : Int) = 1 from rfl, h5]; omega]
    exact x_rI (hQ I5 (fun q a b => by rw [f5 q a b, f4 q a b, f3 q a b, f2 q a b, f1 q a b]) T5)
  · rw [if_neg (by omega), if_neg (by omega)] at hQ
    exact x_rI (hQ I (fun q _ _ => rfl) hT)
theorem fd1 {w : Int} (hw : IR w) {k : Nat} (hk : k < 20) {F : Sem} (hT : Ty I 20 215 (l.map sb)) (hl : l.length < 900)
    (hQ : ∀ I' : IM, (∀ q, q ≠ 200 → q ≠ 215 → I' q = I q) → (∀ k, k ≠ 20 → I' 200 k = I 200 k) → Ty I' 20 215 ((l ++ [byt w (k % 4)]).map sb) → F (ME e I' J) Q) :
    (gR 11 19 200 fun r2 => gI 11 20 200 fun v3 => nz (i32 4) <| sB r2 v3 ((i32 w >>> ((i32 24 - (i32 8 * (i32 k - i32 k / i32 4 * i32 4))) &&& 31)).toInt8.toInt32) <| gI 11 20 200 fun v4 => pI 11 20 200 (v4 + i32 1) <| F) (ME e I J) Q := by
  have e1 : i32 24 - (i32 8 * (i32 k - i32 k / i32 4 * i32 4)) = i32 ((24 - 8 * (k % 4) : Nat) : Int) := by
    rw [i32_div (by omega) (by omega) (by omega) (by omega), Int.tdiv_eq_ediv_of_nonneg (by omega), i32_mul, i32_sub, i32_mul, i32_sub]
    congr 1
    omega
  have r := sb_rg (byt_rg w (k % 4))
  have h1 : I 200 ((20 : Nat) : Int) = (l.length : Int) := by have := hT.1; simpa using this
  refine x_gR rfl rfl (x_gI rfl (x_nz (by omega) (by omega) (by omega) ?_))
  rw [e1, byt_rf hw _ (by omega), h1]
  refine x_sB (n := 900) (b := sb (byt w (k % 4))) (v := sb (byt w (k % 4))) rfl (by omega) (by omega) (by omega) (nar_sb r) (x_gI rfl ?_)
  rw [up_q (by omega), h1, i32_add]
  refine x_pI rfl (hQ _ (fun q a b => by rw [up_qf a, up_qf b]) (fun k h => by rw [up_k (show k ≠ ((20 : Nat) : Int) from h), up_q (by omega)]) ?_)
  rw [← map_sb_push]
  have := Ty_push (c := sb (byt w (k % 4))) hT (by omega)
  rw [List.length_map] at this
  exact this
theorem rq_feed (hT : Ty I 20 215 (l.map sb)) (hl : l.length ≤ 900) (ha : IR a) (hb : IR b) (hc : IR c) (hd : IR d) (hf : IR f) : Ri SX11_feed [.ref 200, .int (i32 a), .int (i32 b), .int (i32 c), .int (i32 d), .int (i32 f)] e I J (fdL l a b c d f) (.int (i32 (fdA l))) := by
  intro Q hQ
  refine x_in (Nat.le_of_ble_eq_true rfl) ?_
  dsimp only [bX11_feed, bX11_feed_0]
  ((try rw [show (0 : Int32) = i32 (0) from rfl]); (try rw [show (20 : Int32) = i32 (20) from rfl]); (try rw [show (900 : Int32) = i32 (900) from rfl]); (try rw [show (-1 : Int32) = i32 (-1) from rfl]); (try simp only [i32_add, i32_sub, i32_mul, i32_neg]))
  unfold fdL fdA at hQ
  refine x_pI rfl (x_gI rfl ?_)
  rw [show ((0 : Nat) : Int) = 0 from rfl]
  have T0 : Ty (up I 200 0 0) 20 215 (l.map sb) := ⟨by rw [up_k (by omega)]; exact hT.1, fun k hk => by rw [up_q (by omega)]; exact hT.2 k hk⟩
  have f0 : Fi I (up I 200 0 0) := ⟨fun q a b => up_qf a, fun k a b => up_k a⟩
  have t0 : up I 200 0 0 200 0 = 0 := up_self
  generalize up I 200 0 0 = I0 at *
  rw [show I0 200 ((20 : Nat) : Int) = (l.length : Int) by have := T0.1; simpa using this, i32_add]
  refine x_le (by omega) (by omega) (fun h => ?_) (fun h => ?_)
  · rw [if_pos (by omega), if_pos (by omega)] at hQ
    refine x_for 20 (fun k av μ => ∃ I1 : IM, av = [.ref 200, .int (i32 a), .int (i32 b), .int (i32 c), .int (i32 d), .int (i32 f), .int (i32 k)] ∧ μ = ME e I1 J ∧ ((∀ q, q ≠ 200 → q ≠ 215 → I1 q = I0 q) ∧ (∀ k, k ≠ 20 → I1 200 k = I0 200 k)) ∧ Ty I1 20 215 ((l ++ (fdl a b c d f).take k).map sb)) ?_ ?_ (Nat.zero_le _) ⟨I0, rfl, rfl, ⟨fun _ _ _ => rfl, fun _ _ => rfl⟩, by simpa using T0⟩
    · rintro k av μ hk ⟨I1, rfl, rfl, f1, T1⟩ hJ
      dsimp only [bX11_feed, bX11_feed_1]
      ((try rw [show (0 : Int32) = i32 (0) from rfl]); (try rw [show (1 : Int32) = i32 (1) from rfl]); (try rw [show (4 : Int32) = i32 (4) from rfl]); (try rw [show (8 : Int32) = i32 (8) from rfl]); (try rw [show (12 : Int32) = i32 (12) from rfl]); (try rw [show (16 : Int32) = i32 (16) from rfl]); (try rw [show (20 : Int32) = i32 (20) from rfl]); (try rw [show (24 : Int32) = i32 (24) from rfl]); (try simp only [i32_add, i32_sub, i32_mul, i32_neg]))
      have len : (l ++ (fdl a b c d f).take k).length < 900 := by simp [fdl_len]; omega
      have nx : ∀ (w : Int), (fdl a b c d f).getD k 0 = byt w (k % 4) → ∀ I2 : IM, (∀ q, q ≠ 200 → q ≠ 215 → I2 q = I1 q) → (∀ k, k ≠ 20 → I2 200 k = I1 200 k) → Ty I2 20 215 (((l ++ (fdl a b c d f).take k) ++ [byt w (k % 4)]).map sb) → fx bX11_feed 1 [.ref 200, .int (i32 a), .int (i32 b), .int (i32 c), .int (i32 d), .int (i32 f), .int (i32 ((k : Int) + 1))] (ME e I2 J) Q := by
        intro w hw I2 g1 g2 T2
        refine hJ _ _ ⟨I2, rfl, rfl, ⟨fun q a b => by rw [g1 q a b, f1.1 q a b], fun k a => by rw [g2 k a, f1.2 k a]⟩, ?_⟩
        rw [take_snoc (by rw [fdl_len]; exact hk), hw, ← List.append_assoc]
        exact T2
      refine x_le (by omega) (by omega) (fun h => by omega) (fun _ => x_le (by omega) (by omega) (fun h4 => x_le (by omega) (by omega) (fun h8 => x_le (by omega) (by omega) (fun h12 => x_le (by omega) (by omega) (fun h16 => ?_) (fun h16 => ?_)) (fun h12 => ?_)) (fun h8 => ?_)) (fun h4 => ?_))
      · refine fd1 hf hk T1 len (nx f ?_)
        obtain ⟨j, rfl⟩ : ∃ j, k = 16 + j := ⟨k - 16, by omega⟩
        rcases (show j = 0 ∨ j = 1 ∨ j = 2 ∨ j = 3 by omega) with rfl | rfl | rfl | rfl <;> rfl
      · refine fd1 hd hk T1 len (nx d ?_)
        obtain ⟨j, rfl⟩ : ∃ j, k = 12 + j := ⟨k - 12, by omega⟩
        rcases (show j = 0 ∨ j = 1 ∨ j = 2 ∨ j = 3 by omega) with rfl | rfl | rfl | rfl <;> rfl
      · refine fd1 hc hk T1 len (nx c ?_)
        obtain ⟨j, rfl⟩ : ∃ j, k = 8 + j := ⟨k - 8, by omega⟩
        rcases (show j = 0 ∨ j = 1 ∨ j = 2 ∨ j = 3 by omega) with rfl | rfl | rfl | rfl <;> rfl
      · refine fd1 hb hk T1 len (nx b ?_)
        obtain ⟨j, rfl⟩ : ∃ j, k = 4 + j := ⟨k - 4, by omega⟩
        rcases (show j = 0 ∨ j = 1 ∨ j = 2 ∨ j = 3 by omega) with rfl | rfl | rfl | rfl <;> rfl
      · refine fd1 ha hk T1 len (nx a ?_)
        rcases (show k = 0 ∨ k = 1 ∨ k = 2 ∨ k = 3 by omega) with rfl | rfl | rfl | rfl <;> rfl
    · rintro av μ ⟨I1, rfl, rfl, f1, T1⟩
      dsimp only [bX11_feed, bX11_feed_1]
      ((try rw [show (20 : Int32) = i32 (20) from rfl]); (try simp only [i32_add, i32_sub, i32_mul, i32_neg]))
      rw [show (fdl a b c d f).take 20 = fdl a b c d f from rfl] at T1
      have h1 := T1.1
      rw [List.length_map, List.length_append, fdl_len] at h1
      refine x_le (by omega) (by omega) (fun _ => x_gI rfl ?_) (fun h => by omega)
      rw [show I1 200 ((20 : Nat) : Int) = (l.length : Int) + 20 by rw [show ((20 : Nat) : Int) = 20 from rfl, h1]; omega]
      exact x_rI (hQ I1 ⟨fun q a b => by rw [f1.1 q a b, f0.1 q a b], fun k a b => by rw [f1.2 k b, f0.2 k a b]⟩ (by rw [f1.2 0 (by omega)]; exact t0) T1)
  · rw [if_neg (by omega), if_neg (by omega)] at hQ
    exact x_rI (hQ I0 f0 t0 T0)
def trL (l : List Int) (a : Int) : List Int := if 0 ≤ a ∧ a ≤ l.length then l.take a.toNat else l
def trA (l : List Int) (a : Int) : Int := if 0 ≤ a ∧ a ≤ l.length then 1 else 0
theorem Tx_take {t r : Nat} (hT : Tx I t r l) (h : a ≤ l.length) (h0 : 0 ≤ a) (hne : t ≠ r) : Tx (up I t 1 a) t r (l.take a.toNat) := by
  refine ⟨by rw [up_self, List.length_take]; omega, fun k hk => ?_⟩
  rw [List.length_take] at hk
  rw [up_q (Ne.symm hne), hT.2 k (by omega)]
  simp only [List.getD_eq_getElem?_getD]
  rw [List.getElem?_take_of_lt (by omega)]
theorem cq_truncate (hT : Tx I 1 2 l) (hl : l.length ≤ 900) (ha : IR a) : Ci SX10_truncate [.ref 0, .int (i32 a)] e I J (trL l a) (.int (i32 (trA l a))) := by
  intro Q hQ
  refine x_in (Nat.le_of_ble_eq_true rfl) ?_
  dsimp only [bX10_truncate, bX10_truncate_0]
  ((try rw [show (0 : Int32) = i32 (0) from rfl]); (try rw [show (1 : Int32) = i32 (1) from rfl]); (try simp only [i32_add, i32_sub, i32_mul, i32_neg]))
  unfold IR at ha
  unfold trL trA at hQ
  refine x_lt (by omega) (by omega) (fun h => ?_) (fun h => x_gR rfl rfl (x_gI rfl ?_))
  · rw [if_neg (by omega), if_neg (by omega)] at hQ
    exact x_rZ (by omega) (hQ I (fun _ _ _ => rfl) hT)
  · rw [show I 1 ((1 : Nat) : Int) = (l.length : Int) from hT.1]
    refine x_le (by omega) (by omega) (fun h2 => x_gR rfl rfl (x_pI rfl ?_)) (fun h2 => ?_)
    · rw [if_pos (by omega), if_pos (by omega)] at hQ
      exact x_rZ (by omega) (hQ _ (fun q a b => up_qf a) (Tx_take hT h2 h (by omega)))
    · rw [if_neg (by omega), if_neg (by omega)] at hQ
      exact x_rZ (by omega) (hQ I (fun _ _ _ => rfl) hT)
theorem rq_truncate (hT : Ty I 20 215 (l.map sb)) (hl : l.length ≤ 900) (ha : IR a) : Ri SX11_truncate [.ref 200, .int (i32 a)] e I J (trL l a) (.int (i32 (trA l a))) := by
  intro Q hQ
  refine x_in (Nat.le_of_ble_eq_true rfl) ?_
  dsimp only [bX11_truncate, bX11_truncate_0]
  ((try rw [show (0 : Int32) = i32 (0) from rfl]); (try rw [show (1 : Int32) = i32 (1) from rfl]); (try simp only [i32_add, i32_sub, i32_mul, i32_neg]))
  unfold trL trA at hQ
  refine x_pI rfl (x_gI rfl ?_)
  rw [show ((0 : Nat) : Int) = 0 from rfl]
  have T0 : Ty (up I 200 0 0) 20 215 (l.map sb) := ⟨by rw [up_k (by omega)]; exact hT.1, fun k hk => by rw [up_q (by omega)]; exact hT.2 k hk⟩
  have f0 : Fi I (up I 200 0 0) := ⟨fun q a b => up_qf a, fun k a b => up_k a⟩
  have t0 : up I 200 0 0 200 0 = 0 := up_self
  generalize up I 200 0 0 = I0 at *
  have h1 := T0.1
  rw [List.length_map] at h1
  rw [show I0 200 ((20 : Nat) : Int) = (l.length : Int) from h1, i32_long ha.1 ha.2, i32_long (by omega) (by omega), show (0 : Int64) = i64 0 from rfl]
  unfold IR at ha
  refine x_cI (sp_X11_isIn (by omega) (by omega) (by omega) ?_)
  by_cases hc : 0 ≤ a ∧ a ≤ (l.length : Int)
  · rw [if_pos hc]
    rw [if_pos hc, if_pos hc] at hQ
    refine x_eq (by omega) (by omega) (fun h => by omega) (fun _ => x_pI rfl (x_rZ (by omega) (hQ _ ⟨fun q a b => by rw [up_qf a, f0.1 q a b], fun k a b => by rw [up_k (show k ≠ ((20 : Nat) : Int) from b), f0.2 k a b]⟩ (by rw [up_k (by omega)]; exact t0) ?_)))
    refine ⟨by rw [show ((20 : Nat) : Int) = 20 from rfl, up_self, List.length_map, List.length_take]; omega, fun k hk => ?_⟩
    rw [List.length_map, List.length_take] at hk
    rw [up_q (by omega), T0.2 k (by rw [List.length_map]; omega), List.map_take]
    simp only [List.getD_eq_getElem?_getD]
    rw [List.getElem?_take_of_lt (by omega)]
  · rw [if_neg hc]
    rw [if_neg hc, if_neg hc] at hQ
    exact x_brr (by trivial) (x_rZ (by omega) (hQ I0 f0 t0 T0))
end Inp59
