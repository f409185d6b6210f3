/-! ===== texts of bytes: the class's Text, the reference's rows ===== -/
def Tx (I : IM) (t r : Nat) (l : List Int) : Prop := I t 1 = l.length ∧ ∀ k : Nat, k < l.length → I r k = l.getD k 0
def Ty (I : IM) (f : Int) (r : Nat) (l : List Int) : Prop := I 200 f = l.length ∧ ∀ k : Nat, k < l.length → I r k = l.getD k 0
/-- the class's output alone has changed -/
def Ox (I I' : IM) : Prop := ∀ q, q ≠ 3 → q ≠ 4 → I' q = I q
/-- the reference's output alone has changed -/
def Oy (I I' : IM) : Prop := (∀ q, q ≠ 200 → q ≠ 216 → I' q = I q) ∧ ∀ k, k ≠ 31 → I' 200 k = I 200 k
theorem Ox.trans {I I' I2 : IM} (h : Ox I I') (h2 : Ox I' I2) : Ox I I2 := fun q a b => by rw [h2 q a b, h q a b]
theorem Oy.trans {I I' I2 : IM} (h : Oy I I') (h2 : Oy I' I2) : Oy I I2 := ⟨fun q a b => by rw [h2.1 q a b, h.1 q a b], fun k a => by rw [h2.2 k a, h.2 k a]⟩
theorem Ox.refl (I : IM) : Ox I I := fun _ _ _ => rfl
theorem Oy.refl (I : IM) : Oy I I := ⟨fun _ _ _ => rfl, fun _ _ => rfl⟩
theorem Tx_push {I : IM} {t r : Nat} {l : List Int} {c : Int} (h : Tx I t r l) (ht : t ≠ r) : Tx (up (up I r l.length c) t 1 (l.length + 1)) t r (l ++ [c]) := by
  refine ⟨by rw [up_self]; simp, fun k hk => ?_⟩
  rw [up_q (Ne.symm ht), up_at]
  simp only [List.length_append, List.length_cons, List.length_nil] at hk
  by_cases h2 : k = l.length
  · subst h2
    rw [if_pos rfl]
    simp [List.getD_eq_getElem?_getD]
  · rw [if_neg (by omega), h.2 k (by omega)]
    simp only [List.getD_eq_getElem?_getD]
    rw [List.getElem?_append_left (by omega)]
theorem Ty_push {I : IM} {f : Int} {r : Nat} {l : List Int} {c : Int} (h : Ty I f r l) (hr : r ≠ 200) : Ty (up (up I r l.length c) 200 f (l.length + 1)) f r (l ++ [c]) := by
  refine ⟨by rw [up_self]; simp, fun k hk => ?_⟩
  rw [up_q hr, up_at]
  simp only [List.length_append, List.length_cons, List.length_nil] at hk
  by_cases h2 : k = l.length
  · subst h2
    rw [if_pos rfl]
    simp [List.getD_eq_getElem?_getD]
  · rw [if_neg (by omega), h.2 k (by omega)]
    simp only [List.getD_eq_getElem?_getD]
    rw [List.getElem?_append_left (by omega)]
theorem Tx0 {I : IM} {t r : Nat} : Tx (up I t 1 0) t r [] := ⟨up_self, fun k hk => absurd hk (Nat.not_lt_zero k)⟩
theorem Ty0 {I : IM} {f : Int} {r : Nat} : Ty (up I 200 f 0) f r [] := ⟨up_self, fun k hk => absurd hk (Nat.not_lt_zero k)⟩
theorem i32_and {a : Int} (n : Nat) (hn : n ≤ 31) (h0 : 0 ≤ a) (h1 : a < 2147483648) : i32 a &&& i32 (2 ^ n - 1) = i32 (a % 2 ^ n) := by
  have e2 : ∀ b : Int, 0 ≤ b → b < 2147483648 → (i32 b).toBitVec.toNat = b.toNat := by
    intro b hb hb2
    show (BitVec.ofInt 32 b).toNat = _
    rw [BitVec.toNat_ofInt]
    omega
  have p : (2 : Int) ^ n ≤ 2147483648 := by
    have : (2 : Nat) ^ n ≤ 2 ^ 31 := Nat.pow_le_pow_right (by omega) hn
    have h3 : (((2 : Nat) ^ n : Nat) : Int) = (2 : Int) ^ n := by simp
    omega
  have p0 : (0 : Int) < 2 ^ n := by
    have : (0 : Nat) < 2 ^ n := Nat.pow_pos (by omega)
    have h3 : (((2 : Nat) ^ n : Nat) : Int) = (2 : Int) ^ n := by simp
    omega
  have m0 := Int.emod_nonneg a (b := 2 ^ n) (by omega)
  have m1 := Int.emod_lt_of_pos a p0
  apply Int32.toBitVec_inj.mp
  apply BitVec.eq_of_toNat_eq
  rw [Int32.toBitVec_and, BitVec.toNat_and, e2 _ h0 h1, e2 _ (by omega) (by omega), e2 _ m0 (by omega)]
  rw [show ((2 : Int) ^ n - 1).toNat = 2 ^ n - 1 by
    have h3 : (((2 : Nat) ^ n : Nat) : Int) = (2 : Int) ^ n := by simp
    omega]
  rw [Nat.and_two_pow_sub_one_eq_mod]
  have h3 : (((2 : Nat) ^ n : Nat) : Int) = (2 : Int) ^ n := by simp
  obtain ⟨k, rfl⟩ : ∃ k : Nat, a = k := ⟨a.toNat, by omega⟩
  rw [← h3, Int.toNat_natCast, ← Int.natCast_emod, Int.toNat_natCast]
section Out58
variable {e : Nat} {I J : IM} {Q : Post} {V : Vw} {H : Hw} {a b c v : Int} {l : List Int}
theorem sp_X7_add {t r n : Nat} (ht : kb t = (0, 7)) (hr : kb r = (1, n)) (hR : R0 e t 0 = some r) (hne : t ≠ r) (hT : Tx I t r l) (hl : l.length < n) (hn : n ≤ 1000) (hc : 0 ≤ c ∧ c < 256)
    (hQ : ∀ I' : IM, (∀ q, q ≠ t → q ≠ r → I' q = I q) → Tx I' t r (l ++ [c]) → Q (.inl none) (ME e I' J)) : SX7_add [.ref t, .int (i32 c)] (ME e I J) Q := by
  refine x_in (Nat.le_of_ble_eq_true rfl) ?_
  dsimp only [bX7_add, bX7_add_0]
  have h1 : I t ((1 : Nat) : Int) = (l.length : Int) := hT.1
  refine x_gI ht ?_
  rw [h1]
  refine x_gR ht hR (x_aL (n := n) hr (Or.inl rfl) ?_)
  refine x_lt (by omega) (by omega) (fun _ => ?_) (fun h => by omega)
  refine x_gR ht hR (x_gI ht ?_)
  rw [h1, show (255 : Int32) = i32 (2 ^ 8 - 1) from rfl, i32_and 8 (by omega) (by omega) (by omega), Int.emod_eq_of_lt hc.1 (by omega)]
  refine x_cV (sp_X10_put hr (by omega) (by omega) (by omega) (by omega) ?_)
  refine x_gI ht ?_
  rw [up_q hne, h1, show (1 : Int32) = i32 1 from rfl, i32_add]
  refine x_pI ht (x_rV (hQ _ (fun q a b => by rw [up_qf a, up_qf b]) (Tx_push hT hne)))
theorem o_add (hT : Tx I 3 4 l) (hl : l.length < 400) (hc : 0 ≤ c ∧ c < 256) (hQ : ∀ I' : IM, Ox I I' → Tx I' 3 4 (l ++ [c]) → Q (.inl none) (ME e I' J)) : SX7_add [.ref 3, .int (i32 c)] (ME e I J) Q :=
  sp_X7_add rfl rfl rfl (by decide) hT hl (by omega) hc hQ
theorem nar_b {c : Int} (h : 0 ≤ c) (h2 : c < 128) : (i32 c).toInt8.toInt32 = i32 c ∧ vp_nar .byte (i32 c) = i32 c := by
  have key : ∀ k : Nat, k < 128 → (i32 (k : Int)).toInt8.toInt32 = i32 (k : Int) ∧ vp_nar .byte (i32 (k : Int)) = i32 (k : Int) := by decide +kernel
  have := key c.toNat (by omega)
  rwa [Int.toNat_of_nonneg h] at this
theorem sp_X11_says (hT : Ty I 31 216 l) (hl : l.length < 400) (hc : 0 ≤ c ∧ c < 128) (hQ : ∀ I' : IM, Oy I I' → Ty I' 31 216 (l ++ [c]) → Q (.inl none) (ME e I' J)) : SX11_says [.ref 200, .int (i32 c)] (ME e I J) Q := by
  refine x_in (Nat.le_of_ble_eq_true rfl) ?_
  dsimp only [bX11_says, bX11_says_0]
  have h1 : I 200 ((31 : Nat) : Int) = (l.length : Int) := hT.1
  refine x_gR rfl rfl (x_gI rfl ?_)
  rw [h1, (nar_b hc.1 hc.2).1]
  refine x_sB (n := 400) rfl (by omega) (by omega) (by omega) (nar_b hc.1 hc.2).2 (x_gI rfl ?_)
  rw [up_q (by decide), h1, show (1 : Int32) = i32 1 from rfl, i32_add]
  exact x_pI rfl (x_rV (hQ _ ⟨fun q a b => by rw [up_qf a, up_qf b], fun k h => by rw [up_k (show k ≠ ((31 : Nat) : Int) from h), up_q (by decide)]⟩ (Ty_push hT (by decide))))
/-! a number's digits, a name's letters, the quoted words -/
def dg : Nat → Nat → List Int
  | 0, _ => []
  | d + 1, n => if n ≤ 9 then [48 + (n : Int)] else dg d (n / 10) ++ [48 + ((n % 10 : Nat) : Int)]
def num (v : Int) : List Int := (if v < 0 then [45] else []) ++ dg 10 v.natAbs
def nam (l : List Nat) : List Int := l.map fun (x : Nat) => 96 + (x : Int)
theorem dg_len : ∀ d n, (dg d n).length ≤ d := by
  intro d
  induction d with
  | zero => intro n; exact Nat.le_refl _
  | succ d ih =>
    intro n
    have := ih (n / 10)
    unfold dg
    split <;> simp <;> omega
theorem dg_mem : ∀ d n, ∀ c ∈ dg d n, 48 ≤ c ∧ c ≤ 57 := by
  intro d
  induction d with
  | zero => intro n c h; simp [dg] at h
  | succ d ih =>
    intro n c h
    unfold dg at h
    split at h
    · simp at h; omega
    · rcases List.mem_append.mp h with h | h
      · exact ih _ _ h
      · simp at h; omega
theorem dg_more : ∀ d n, n < 10 ^ d → 1 ≤ d → dg (d + 1) n = dg d n := by
  intro d
  induction d with
  | zero => intro n _ h; omega
  | succ d ih =>
    intro n h1 _
    have e1 : dg (d + 1 + 1) n = if n ≤ 9 then [48 + (n : Int)] else dg (d + 1) (n / 10) ++ [48 + ((n % 10 : Nat) : Int)] := rfl
    have e2 : dg (d + 1) n = if n ≤ 9 then [48 + (n : Int)] else dg d (n / 10) ++ [48 + ((n % 10 : Nat) : Int)] := rfl
    rw [e1, e2]
    by_cases h : n ≤ 9
    · rw [if_pos h, if_pos h]
    · rw [if_neg h, if_neg h]
      rw [Nat.pow_succ] at h1
      have : 1 ≤ d := by
        cases d with
        | zero => simp at h1; omega
        | succ d => omega
      rw [ih (n / 10) (by omega) this]
theorem dg_len2 : ∀ d k n, k ≤ d → n < 10 ^ k → 1 ≤ k → (dg d n).length ≤ k := by
  intro d
  induction d with
  | zero => intro k n h _ h2; omega
  | succ d ih =>
    intro k n h1 h2 h3
    have e2 : dg (d + 1) n = if n ≤ 9 then [48 + (n : Int)] else dg d (n / 10) ++ [48 + ((n % 10 : Nat) : Int)] := rfl
    rw [e2]
    split
    · simpa using h3
    · rename_i h
      obtain ⟨j, rfl⟩ : ∃ j, k = j + 1 := ⟨k - 1, by omega⟩
      rw [Nat.pow_succ] at h2
      have hj : 1 ≤ j := by
        cases j with
        | zero => simp at h2; omega
        | succ j => omega
      have := ih j (n / 10) (by omega) (by omega) hj
      simp; omega
theorem num_len {v : Int} (h : -2147483648 < v ∧ v < 2147483648) : (num v).length ≤ 11 := by
  have := dg_len 10 v.natAbs
  unfold num
  split <;> simp <;> omega
theorem num_mem {v : Int} : ∀ c ∈ num v, 0 ≤ c ∧ c < 128 := by
  intro c h
  unfold num at h
  rcases List.mem_append.mp h with h | h
  · split at h <;> simp at h; omega
  · have := dg_mem _ _ _ h; omega
theorem nam_mem {l : List Nat} (h : okName l) : ∀ c ∈ nam l, 0 ≤ c ∧ c < 128 := by
  intro c hc
  unfold nam at hc
  obtain ⟨x, hx, rfl⟩ := List.mem_map.mp hc
  have := h.2.2 x hx
  omega
theorem sp_X11_saysDigits : ∀ (d n : Nat) (l : List Int) (I : IM) (Q : Post), d ≤ 11 → n < 10 ^ d → 1 ≤ d → n < 2147483648 → Ty I 31 216 l → l.length + d ≤ 400 →
    (∀ I' : IM, Oy I I' → Ty I' 31 216 (l ++ dg d n) → Q (.inl none) (ME e I' J)) → SX11_saysDigits d [.ref 200, .int (i32 n)] (ME e I J) Q := by
  intro d
  induction d with
  | zero => intro n l I Q _ _ h; omega
  | succ d ih =>
    intro n l I Q hd hn _ hn2 hT hl hQ
    unfold SX11_saysDigits
    refine x_in (Nat.le_of_ble_eq_true rfl) ?_
    dsimp only [bX11_saysDigits, bX11_saysDigits_0]
    have e2 : dg (d + 1) n = if n ≤ 9 then [48 + (n : Int)] else dg d (n / 10) ++ [48 + ((n % 10 : Nat) : Int)] := rfl
    have q10 : (i32 n) / (10 : Int32) = i32 ((n / 10 : Nat) : Int) := by
      rw [show (10 : Int32) = i32 10 from rfl, i32_div (by omega) (by omega) (by omega) (by omega), Int.tdiv_eq_ediv_of_nonneg (by omega)]
      rfl
    have m10 : (48 : Int32) + (i32 n - i32 n / 10 * 10) = i32 (48 + ((n % 10 : Nat) : Int)) := by
      rw [q10, show (48 : Int32) = i32 48 from rfl, show (10 : Int32) = i32 10 from rfl, i32_mul, i32_sub, i32_add]
      congr 1
      omega
    rw [m10, q10, show (9 : Int32) = i32 9 from rfl, show (10 : Int32) = i32 10 from rfl]
    refine x_le (by omega) (by omega) (fun h => ?_) (fun h => ?_)
    · rw [e2, if_pos (by omega), ] at hQ
      refine x_nz (by omega) (by omega) (by omega) (x_ob rfl (x_cV (sp_X11_says hT (by omega) (by omega) fun I1 f1 T1 => x_rV (hQ I1 f1 ?_))))
      rwa [Nat.mod_eq_of_lt (by omega)] at T1
    · rw [e2, if_neg (by omega)] at hQ
      rw [Nat.pow_succ] at hn
      have hd1 : 1 ≤ d := by
        cases d with
        | zero => simp at hn; omega
        | succ d => omega
      refine x_nz (by omega) (by omega) (by omega) (x_ob rfl (x_cV (ih (n / 10) l I _ (by omega) (by omega) hd1 (by omega) hT (by omega) fun I1 f1 T1 => ?_)))
      have := dg_len d (n / 10)
      refine x_nz (by omega) (by omega) (by omega) (x_ob rfl (x_cV (sp_X11_says T1 (by simp; omega) (by omega) fun I2 f2 T2 => x_rV (hQ I2 (f1.trans f2) ?_))))
      rw [List.append_assoc] at T2
      exact T2
theorem sp_X11_saysNumber (hv : -2147483648 < v ∧ v < 2147483648) (hT : Ty I 31 216 l) (hl : l.length + 12 ≤ 400) (hQ : ∀ I' : IM, Oy I I' → Ty I' 31 216 (l ++ num v) → Q (.inl none) (ME e I' J)) : SX11_saysNumber [.ref 200, .int (i32 v)] (ME e I J) Q := by
  refine x_in (Nat.le_of_ble_eq_true rfl) ?_
  dsimp only [bX11_saysNumber, bX11_saysNumber_0]
  ((try rw [show (0 : Int32) = i32 (0) from rfl]); (try rw [show (45 : Int32) = i32 (45) from rfl]); (try simp only [i32_add, i32_sub, i32_mul, i32_neg]))
  have p : v.natAbs < 10 ^ 10 := by simp; omega
  have hm := dg_more 10 v.natAbs p (by omega)
  have key : ∀ (I1 : IM) (l1 : List Int), Oy I I1 → Ty I1 31 216 l1 → l1.length + 11 ≤ 400 → l1 ++ dg 10 v.natAbs = l ++ num v → (ob 11 200 (cV (SX11_saysDigits 11) [.ref 200, .int (i32 (if v < 0 then -v else v))] <| rV)) (ME e I1 J) Q := by
    intro I1 l1 f1 T1 h1 h2
    rw [show (if v < 0 then -v else v) = ((v.natAbs : Nat) : Int) by split <;> omega]
    refine x_ob rfl (x_cV (sp_X11_saysDigits 11 v.natAbs l1 I1 _ (by omega) (by simp; omega) (by omega) (by omega) T1 (by omega) fun I2 f2 T2 => x_rV (hQ I2 (f1.trans f2) ?_)))
    rw [hm, h2] at T2
    exact T2
  refine x_le (by omega) (by omega) (fun h => ?_) (fun h => ?_)
  · refine x_cI (sp_J9_abs_0f7a4 (by omega) (key I l (Oy.refl I) hT (by omega) ?_))
    unfold num; rw [if_neg (by omega)]; rfl
  · refine x_ob rfl (x_cV (sp_X11_says hT (by omega) (by omega) fun I1 f1 T1 => x_cI (sp_J9_abs_0f7a4 (by omega) (key I1 _ f1 T1 (by simp; omega) ?_))))
    unfold num; rw [if_pos (by omega), List.append_assoc]
theorem enc_snoc {B : Int} (l : List Nat) (x : Nat) : enc B (l ++ [x]) = B * enc B l + x := by simp [enc]
theorem enc_lt {B : Nat} (n : Nat) : ∀ l : List Nat, l.length = n → (∀ c ∈ l, 1 ≤ c ∧ c < B) → 0 ≤ enc B l ∧ enc B l < (B : Int) ^ n := by
  induction n with
  | zero => intro l h _; rw [List.length_eq_zero_iff.mp h]; simp [enc]
  | succ n ih =>
    intro l h h2
    rcases List.eq_nil_or_concat l with h3 | ⟨a, b, h3⟩
    · subst h3; simp at h
    · have h3 : l = a ++ [b] := by rw [h3]; simp
      subst h3
      have hb := h2 b (by simp)
      have := ih a (by simpa using h) (fun c hc => h2 c (List.mem_append_left _ hc))
      rw [enc_snoc, Int.pow_succ]
      have h5 : (B : Int) * enc B a + B ≤ (B : Int) ^ n * B := by
        rw [Int.mul_comm ((B : Int) ^ n), show (B : Int) * enc B a + B = B * (enc B a + 1) by rw [Int.mul_add, Int.mul_one]]
        exact Int.mul_le_mul_of_nonneg_left (by omega) (by omega)
      have h6 : 0 ≤ (B : Int) * enc B a := Int.mul_nonneg (by omega) this.1
      omega
theorem enc27_bd {l : List Nat} (h : l.length ≤ 6) (h2 : ∀ c ∈ l, 1 ≤ c ∧ c ≤ 26) : 0 ≤ enc 27 l ∧ enc 27 l < 387420489 ∧ (l.length ≤ 5 → enc 27 l < 14348907) := by
  have := enc_lt (B := 27) l.length l rfl (fun c hc => by have := h2 c hc; omega)
  have key : ∀ k : Nat, k ≤ 6 → ((27 : Nat) : Int) ^ k ≤ 387420489 ∧ (k ≤ 5 → ((27 : Nat) : Int) ^ k ≤ 14348907) := by decide +kernel
  have k2 := key _ h
  exact ⟨this.1, Int.lt_of_lt_of_le this.2 k2.1, fun h5 => Int.lt_of_lt_of_le this.2 (k2.2 h5)⟩
theorem sp_X11_saysLetters : ∀ (d : Nat) (w : List Nat) (l : List Int) (I : IM) (Q : Post), 1 ≤ w.length → w.length ≤ d → w.length ≤ 6 → (∀ c ∈ w, 1 ≤ c ∧ c ≤ 26) → Ty I 31 216 l → l.length + w.length ≤ 400 →
    (∀ I' : IM, Oy I I' → Ty I' 31 216 (l ++ nam w) → Q (.inl none) (ME e I' J)) → SX11_saysLetters d [.ref 200, .int (i32 (enc 27 w))] (ME e I J) Q := by
  intro d
  induction d with
  | zero => intro w l I Q h1 h2; omega
  | succ d ih =>
    intro w l I Q h1 h2 h3 h4 hT hl hQ
    obtain ⟨w', x, rfl⟩ : ∃ w' x, w = w' ++ [x] := by
      rcases List.eq_nil_or_concat w with h | ⟨a, b, h⟩
      · subst h; simp at h1
      · exact ⟨a, b, by rw [h]; simp⟩
    have hx := h4 x (by simp)
    have hw' : ∀ c ∈ w', 1 ≤ c ∧ c ≤ 26 := fun c hc => h4 c (List.mem_append_left _ hc)
    simp only [List.length_append, List.length_cons, List.length_nil] at h1 h2 h3 hl
    have bd := enc27_bd (l := w') (by omega) hw'
    unfold SX11_saysLetters
    refine x_in (Nat.le_of_ble_eq_true rfl) ?_
    dsimp only [bX11_saysLetters, bX11_saysLetters_0]
    rw [enc_snoc]
    have q27 : (i32 (27 * enc 27 w' + x)) / (27 : Int32) = i32 (enc 27 w') := by
      rw [show (27 : Int32) = i32 27 from rfl, i32_div (by omega) (by omega) (by omega) (by omega), Int.tdiv_eq_ediv_of_nonneg (by omega)]
      congr 1
      omega
    have m27 : (97 : Int32) + (i32 (27 * enc 27 w' + x) - i32 (27 * enc 27 w' + x) / 27 * 27) - 1 = i32 (96 + (x : Int)) := by
      rw [q27, show (97 : Int32) = i32 97 from rfl, show (27 : Int32) = i32 27 from rfl, show (1 : Int32) = i32 1 from rfl, i32_mul, i32_sub, i32_add, i32_sub]
      congr 1
      omega
    have nm : nam (w' ++ [x]) = nam w' ++ [96 + (x : Int)] := by simp [nam]
    rw [m27, q27, show (26 : Int32) = i32 26 from rfl, show (27 : Int32) = i32 27 from rfl]
    rw [nm] at hQ
    refine x_le (by omega) (by omega) (fun h => ?_) (fun h => ?_)
    · have hw0 : w' = [] := by
        rcases List.eq_nil_or_concat w' with h6 | ⟨a, b, h6⟩
        · exact h6
        · exfalso
          have h6' : w' = a ++ [b] := by rw [h6]; simp
          have h7 := hw' b (by rw [h6']; simp)
          rw [h6', enc_snoc] at h
          have := (enc27_bd (l := a) (by rw [h6'] at h3; simp at h3; omega) (fun c hc => hw' c (by rw [h6']; exact List.mem_append_left _ hc))).1
          omega
      subst hw0
      refine x_nz (by omega) (by omega) (by omega) (x_ob rfl (x_cV (sp_X11_says hT (by omega) (by omega) fun I1 f1 T1 => x_rV (hQ I1 f1 ?_))))
      simpa [nam] using T1
    · have hw1 : 1 ≤ w'.length := by
        cases w' with
        | nil => simp [enc] at h; omega
        | cons a b => simp
      refine x_nz (by omega) (by omega) (by omega) (x_ob rfl (x_cV (ih w' l I _ hw1 (by omega) (by omega) hw' hT (by omega) fun I1 f1 T1 => ?_)))
      refine x_nz (by omega) (by omega) (by omega) (x_ob rfl (x_cV (sp_X11_says T1 (by simp [nam]; omega) (by omega) fun I2 f2 T2 => x_rV (hQ I2 (f1.trans f2) ?_))))
      rw [List.append_assoc] at T2
      exact T2
end Out58
