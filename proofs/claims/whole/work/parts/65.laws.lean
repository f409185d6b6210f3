/-! ===== the law, call by call ===== -/
section Law65
variable {e t L n : Nat} {I J : IM} {xs : Nat → Int32}
def QL : Post := fun r _ => r = .inl (some (.int 1))
theorem lawB_ok {Jn : LT} {Q : Post} (hs : St t I) (he : e ∈ stLs) (hx : 6 * t + 6 ≤ L ∧ L ≤ 3072) (hF : ∀ (I' J' : IM) (e' : Nat), e' ∈ stLs → St (t + 1) I' → Jn 0 200 217 (i32 ((6 * t : Nat) : Int) + 6) (ME e' I' J') Q) : ∀ k, lawB L xs Jn 0 200 217 (i32 ((6 * t : Nat) : Int)) k (ME e I J) Q
  | 0 => k0 (xs := xs) hs he hx hF
  | 1 => k1 (xs := xs) hs he hx hF
  | 2 => k2 (xs := xs) hs he hx hF
  | 3 => k3 (xs := xs) hs he hx hF
  | 4 => k4 (xs := xs) hs he hx hF
  | 5 => k5 (xs := xs) hs he hx hF
  | 6 => k6 (xs := xs) hs he hx hF
  | 7 => k7 (xs := xs) hs he hx hF
  | 8 => k8 (xs := xs) hs he hx hF
  | 9 => k9 (xs := xs) hs he hx hF
  | 10 => k10 (xs := xs) hs he hx hF
  | 11 => k11 (xs := xs) hs he hx hF
  | 12 => k12 (xs := xs) hs he hx hF
  | 13 => k13 (xs := xs) hs he hx hF
  | 14 => k14 (xs := xs) hs he hx hF
  | 15 => k15 (xs := xs) hs he hx hF
  | 16 => k16 (xs := xs) hs he hx hF
  | 17 => k17 (xs := xs) hs he hx hF
  | 18 => k18 (xs := xs) hs he hx hF
  | 19 => k19 (xs := xs) hs he hx hF
  | 20 => k20 (xs := xs) hs he hx hF
  | 21 => k21 (xs := xs) hs he hx hF
  | 22 => k22 (xs := xs) hs he hx hF
  | 23 => k23 (xs := xs) hs he hx hF
  | 24 => k24 (xs := xs) hs he hx hF
  | 25 => k25 (xs := xs) hs he hx hF
  | 26 => k26 (xs := xs) hs he hx hF
  | 27 => k27 (xs := xs) hs he hx hF
  | 28 => k28 (xs := xs) hs he hx hF
  | 29 => k29 (xs := xs) hs he hx hF
  | 30 => k30 (xs := xs) hs he hx hF
  | 31 => k31 (xs := xs) hs he hx hF
  | 32 => k32 (xs := xs) hs he hx hF
  | 33 => k33 (xs := xs) hs he hx hF
  | 34 => k34 (xs := xs) hs he hx hF
  | 35 => k35 (xs := xs) hs he hx hF
  | 36 => k36 (xs := xs) hs he hx hF
  | 37 => k37 (xs := xs) hs he hx hF
  | 38 => k38 (xs := xs) hs he hx hF
  | 39 => k39 (xs := xs) hs he hx hF
  | 40 => k40 (xs := xs) hs he hx hF
  | 41 => k41 (xs := xs) hs he hx hF
  | 42 => k42 (xs := xs) hs he hx hF
  | 43 => k43 (xs := xs) hs he hx hF
  | 44 => k44 (xs := xs) hs he hx hF
  | 45 => k45 (xs := xs) hs he hx hF
  | 46 => k46 (xs := xs) hs he hx hF
  | 47 => k47 (xs := xs) hs he hx hF
  | 48 => k48 (xs := xs) hs he hx hF
  | 49 => k49 (xs := xs) hs he hx hF
  | 50 => k50 (xs := xs) hs he hx hF
  | 51 => k51 (xs := xs) hs he hx hF
  | 52 => k52 (xs := xs) hs he hx hF
  | _ + 53 => k53 (xs := xs) hs he hx hF
theorem sw_all {Q : Post} {a l : Int32} {n : Nat} {f : Nat → Sem} {μ : Mem} (h : ∀ k, f k μ Q) : sw a l n f μ Q := by
  unfold sw
  split
  · exact h _
  · exact h _
theorem lawS_ok (hL : L ≤ 3072) : ∀ (n t : Nat) (I J : IM) (e : Nat), n + t = 513 → 6 * t ≤ L → St t I → e ∈ stLs → lawS L xs n 0 200 217 (i32 ((6 * t : Nat) : Int)) (ME e I J) QL := by
  intro n
  induction n with
  | zero => intro t I J e h1 h2; omega
  | succ n ih =>
    intro t I J e h1 h2 hs he
    show br (nI L - 6 < i32 ((6 * t : Nat) : Int)) (rZ 1) (sld L xs (i32 ((6 * t : Nat) : Int)) fun v => sw (v &&& 63) (0) 53 fun k => lawB L xs (lawS L xs n) 0 200 217 (i32 ((6 * t : Nat) : Int)) k) (ME e I J) QL
    rw [nI_i32, show (6 : Int32) = i32 6 from rfl, i32_sub]
    refine x_lt (by omega) (by omega) (fun _ => ⟨Or.inr rfl, rfl⟩) (fun h => ⟨i32_in (by omega) (by omega) (by omega), sw_all fun k => ?_⟩)
    refine lawB_ok hs he ⟨by omega, hL⟩ (fun I' J' e' he' hs' => ?_) k
    have := ih (t + 1) I' J' e' (by omega) (by omega) hs' he'
    rw [show i32 ((6 * t : Nat) : Int) + 6 = i32 ((6 * (t + 1) : Nat) : Int) by rw [show (6 : Int32) = i32 6 from rfl, i32_add]; congr 1]
    exact this
theorem St_0 {h : Nat → Nat → Bool} {I0 : IM} (a : M10 h I0) {h' : Nat → Nat → Bool} (b : M11 h' I I0) : St 0 I := by
  obtain ⟨a1, a2, a3, a4, a5, a6, a7, a8, a9⟩ := a
  obtain ⟨b1, b2, b3, b4, b5, b6⟩ := b
  have z : ∀ q, 1 ≤ q → q < 19 → q ≠ 9 → ∀ k, I q k = 0 := fun q x y w k => by rw [b3 q (by omega)]; exact a5 q x y w k
  have z0 : ∀ k, k ≠ 14 → I 0 k = 0 := fun k hk => by rw [b3 0 (by omega)]; exact a3 k hk
  have none : ∀ {P : Int → Prop}, ∀ k : Int, 0 ≤ k → k < ((0 : Nat) : Int) → P k := fun k x y => by omega
  refine ⟨oV, oH, ⟨Good_o, GoodH_o, HB_o _ _, ⟨fun i x y => ?_, ?_, fun h => ?_, ?_, trivial, trivial, trivial, none, none, none, none, none, none⟩, fun k x y => ⟨?_, ?_, fun h => ?_⟩, ⟨?_, none, none⟩, fun x _ => by rw [b3 190 (by omega)]; exact a8 _, Rrw_o b6, Rhr_o _ _⟩, ⟨0, 0, fun _ => (oV, oH), fun _ _ => 0, ⟨?_, ?_, by omega, by omega, fun j hj => absurd hj (Nat.not_lt_zero j)⟩, ⟨b4 7 (by omega), by omega, fun j hj => absurd hj (Nat.not_lt_zero j)⟩, fun j hj => absurd hj (Nat.not_lt_zero j)⟩, Or.inl ⟨z0 12 (by omega), b4 8 (by omega)⟩, ⟨[], ⟨z 1 (by omega) (by omega) (by omega) 1, fun k hk => absurd hk (Nat.not_lt_zero k)⟩, ⟨b4 20 (by omega), fun k hk => absurd hk (Nat.not_lt_zero k)⟩, By_nil⟩, ⟨[], ⟨z 3 (by omega) (by omega) (by omega) 1, fun k hk => absurd hk (Nat.not_lt_zero k)⟩, ⟨b4 31 (by omega), fun k hk => absurd hk (Nat.not_lt_zero k)⟩, by simp⟩, ⟨?_, ?_⟩, fun i hi => by rw [b3 170 (by omega)]; exact a9 i hi⟩
  · rw [b3 9 (by omega)]; exact a6 i x y
  · exact z 8 (by omega) (by omega) (by omega) 1
  · have h : (0 : Int) = 1 := h
    omega
  · exact z 8 (by omega) (by omega) (by omega) 6
  · exact z 10 (by omega) (by omega) (by omega) k
  · exact z 11 (by omega) (by omega) (by omega) k
  · have h : (0 : Int) = 1 := h
    omega
  · exact z 5 (by omega) (by omega) (by omega) 0
  · rw [b3 41 (by omega)]; exact a7 1
  · rw [b3 41 (by omega)]; exact a7 2
  · rw [z0 13 (by omega), b4 27 (by omega)]
  · rw [b3 0 (by omega), a4, b5]
end Law65
/-- the pure side: the law's semantics answers true -/
theorem pure_law {L : Nat} {xs : Nat → Int32} (hL : L ≤ 3072) : lawM L xs (0, fun _ _ => 0, fun _ _ => none, fun _ _ => 0) (fun r _ => r = .inl (some (.int 1))) := by
  have e0 : ((0, fun _ _ => 0, fun _ _ => none, fun _ _ => 0) : Mem) = Mk 0 (fun _ _ => false) (fun _ _ => 0) := rfl
  rw [e0]
  have hz0 : ∀ n, Zr n (fun _ _ => false) (fun _ _ => 0) := fun n q _ => ⟨fun _ => rfl, fun _ => rfl⟩
  refine y_nO rfl (hz0 0) (x_cV (sp_ini10 (hz0 1) (fun _ _ => rfl) fun h1 I1 m10 => ?_))
  refine y_nO rfl m10.2.1 (x_cV (sp_ini11 m10.1 (m10.2.1.le (by omega)) (m10.2.1 200 (by omega)).2 fun h2 I2 m11 => ?_))
  refine y_nA (m := 1) (t := 4) rfl (by decide) (by decide) rfl m11.2.1 ?_
  rw [Mk_ME m11.1]
  exact lawS_ok hL 513 0 I2 _ 8 rfl (by omega) (St_0 m10 m11) st8
