/-! bribes -/
theorem divL {F : Nat} : ∀ (n a b : Nat), a < 1000 → b < 2 ^ n → b < 1000 → 2 * n + 1 ≤ F → fG_X11_divisor F (a : Int) (b : Int) = some ((Nat.gcd a b : Nat) : Int) := by
  induction F using Nat.strongRecOn with
  | ind F ih =>
    intro n a b ha hb hb2 hF
    have stop : ∀ (F' a : Nat), fG_X11_divisor (F' + 1) (a : Int) (((0 : Nat)) : Int) = some ((a : Nat) : Int) := fun F' a => by
      show fX11_divisor_b (fG_X11_divisor F') (a : Int) (((0 : Nat)) : Int) = _
      exact if_pos (by decide)
    have go : ∀ (F' a b : Nat), a < 1000 → b < 1000 → b ≠ 0 → fG_X11_divisor (F' + 1) (a : Int) (b : Int) = zb (fG_X11_divisor F' (b : Int) ((a % b : Nat) : Int)) (fun v3 => some v3) := by
      intro F' a b ha hb h0
      show fX11_divisor_b (fG_X11_divisor F') (a : Int) (b : Int) = _
      unfold fX11_divisor_b
      rw [zw_id (show -2147483648 ≤ (b : Int) ∧ (b : Int) < 2147483648 by omega), if_neg (by omega), if_pos (by omega), zrem_pos (by omega) (by omega) (by omega) (by omega)]
      rfl
    have gc : ∀ a b : Nat, Nat.gcd a b = Nat.gcd b (a % b) := fun a b => by
      rw [Nat.gcd_comm a b, Nat.gcd_rec, Nat.gcd_comm]
    obtain ⟨F', rfl⟩ : ∃ F', F = F' + 1 := ⟨F - 1, by omega⟩
    by_cases h0 : b = 0
    · subst h0
      rw [stop, Nat.gcd_zero_right]
    · cases n with
      | zero => rw [Nat.pow_zero] at hb; omega
      | succ n =>
        have hc := Nat.mod_lt a (show b > 0 by omega)
        rw [go F' a b ha hb2 h0, gc a b]
        by_cases h1 : a % b = 0
        · obtain ⟨F'', rfl⟩ : ∃ F'', F' = F'' + 1 := ⟨F' - 1, by omega⟩
          rw [h1, stop, Nat.gcd_zero_right]
          rfl
        · obtain ⟨F'', rfl⟩ : ∃ F'', F' = F'' + 1 := ⟨F' - 1, by omega⟩
          have hc2 := Nat.mod_lt b (show a % b > 0 by omega)
          have hdm := Nat.div_add_mod b (a % b)
          have hq : 1 ≤ b / (a % b) := (Nat.one_le_div_iff (by omega)).mpr (by omega)
          have hm : a % b ≤ (a % b) * (b / (a % b)) := Nat.le_mul_of_pos_right _ hq
          rw [Nat.pow_succ] at hb
          rw [go F'' b (a % b) hb2 (by omega) h1, gc b (a % b), ih F'' (by omega) n (a % b) (b % (a % b)) (by omega) (by omega) (by omega) (by omega)]
          rfl
theorem divM {a b : Nat} (ha : a < 1000) (hb : b < 256) : fX11_divisor (a : Int) (b : Int) = some ((Nat.gcd a b : Nat) : Int) := divL 8 a b ha hb (by omega) (by decide)
theorem divXl {N : Nat} : ∀ (F b a i : Nat), a < 1000 → b < 1000 → b + i ≤ 198 → b < F → fX10_divisor_c7 N F (a : Int) (b : Int) (i : Int) = some ((Nat.gcd a b : Nat) : Int) := by
  intro F
  induction F with
  | zero => intro b a i _ _ _ h; omega
  | succ F ih =>
    intro b a i ha hb hi hF
    show fX10_divisor_c7b N (fX10_divisor_c7 N F) _ _ _ = _
    unfold fX10_divisor_c7b
    rw [show zw 198 = 198 by decide, zw_id (show -2147483648 ≤ (i : Int) ∧ (i : Int) < 2147483648 by omega), zw_id (show -2147483648 ≤ (b : Int) ∧ (b : Int) < 2147483648 by omega)]
    by_cases h0 : b = 0
    · subst h0
      rw [Nat.gcd_zero_right]
      by_cases h1 : (198 : Int) ≤ (i : Int)
      · rw [if_pos h1]
      · rw [if_neg h1, if_pos (by omega)]
    · have hc := Nat.mod_lt a (show b > 0 by omega)
      rw [if_neg (by omega), if_neg (by omega), if_pos (by omega), zrem_pos (by omega) (by omega) (by omega) (by omega)]
      have := ih (a % b) b (i + 1) hb (by omega) (by omega) (by omega)
      refine (show _ = _ from this).trans ?_
      rw [Nat.gcd_comm a b, Nat.gcd_rec b a, Nat.gcd_comm (a % b) b]
theorem divXx {N : Nat} (hN : 300 ≤ N) {a b : Nat} (ha : a < 1000) (hb : b ≤ 198) : fX10_divisor N (a : Int) (b : Int) = some ((Nat.gcd a b : Nat) : Int) := divXl N b a 0 ha (by omega) (by omega) (by omega)
theorem stakeX {x : Int} (hx : zw x = x) : fX10_isStake x = if 1 ≤ x ∧ x ≤ 99 then 1 else 0 := by
  unfold fX10_isStake
  rw [hx, zw_1, zw_99]
  by_cases h1 : x < 1
  · rw [if_pos h1, if_neg (by omega)]
  · rw [if_neg h1]
    by_cases h2 : 99 < x
    · rw [if_pos h2, if_neg (by omega)]
    · rw [if_neg h2, if_pos (by omega)]
theorem bribes_both {N : Nat} (hN : 300 ≤ N) {a b c d : Int} (ha : zw a = a) (hb : zw b = b) (hc : zw c = c) (hd : zw d = d) : ∃ r, fX10_bribes N a b c d = some r ∧ fX11_bribes a b c d = some r := by
  unfold fX10_bribes fX11_bribes
  rw [stakeX ha, stakeX hb, stakeX hc, in_eq ha zw_1 zw_99, in_eq hb zw_1 zw_99, in_eq hc zw_1 zw_99, in_eq hd zw_0 zw_3, hd, hb, hc, zw_3, zw_2, zq, zq, zq, zq, zq, zq, zq]
  by_cases h1 : 1 ≤ a ∧ a ≤ 99
  · rw [if_pos h1, if_pos h1]
    by_cases h2 : 1 ≤ b ∧ b ≤ 99
    · rw [if_pos h2, if_pos h2]
      by_cases h3 : 1 ≤ c ∧ c ≤ 99
      · rw [if_pos h3, if_pos h3]
        by_cases h4 : 0 ≤ d ∧ d ≤ 3
        · rw [if_neg (show ¬ d < 0 by omega), if_pos h4.2, if_pos h4]
          obtain ⟨g, rfl⟩ := Int.eq_ofNat_of_zero_le (show 0 ≤ a by omega)
          obtain ⟨f, rfl⟩ := Int.eq_ofNat_of_zero_le (show 0 ≤ b by omega)
          obtain ⟨e, rfl⟩ := Int.eq_ofNat_of_zero_le (show 0 ≤ c by omega)
          have hgc : ∀ x y : Nat, 0 < y → y ≤ 198 → x ≤ 99 → 1 ≤ Nat.gcd x y ∧ Nat.gcd x y ≤ 198 := fun x y h0 h1 _ => ⟨Nat.gcd_pos_of_pos_right x h0, Nat.le_trans (Nat.gcd_le_right x h0) h1⟩
          have X108 : ∀ x y : Nat, 0 < y → y ≤ 198 → x ≤ 99 → fX10_bribes_c108 N d (x : Int) (y : Int) = some (if d = 0 ∨ d = 2 then ((x / Nat.gcd x y : Nat) : Int) else ((y / Nat.gcd x y : Nat) : Int)) := by
            intro x y h0 hy hx
            obtain ⟨k1, k2⟩ := hgc x y h0 hy hx
            unfold fX10_bribes_c108
            rw [divXx hN (by omega) hy, zb_some, zw_1, zw_2, hd, zw_id (show -2147483648 ≤ ((Nat.gcd x y : Nat) : Int) ∧ ((Nat.gcd x y : Nat) : Int) < 2147483648 by omega), if_pos (show (1 : Int) ≤ ((Nat.gcd x y : Nat) : Int) by omega)]
            have hne : ¬ ((Nat.gcd x y : Nat) : Int) = 0 := by omega
            have z1 : zdiv (x : Int) ((Nat.gcd x y : Nat) : Int) = ((x / Nat.gcd x y : Nat) : Int) := (zdiv_pos (by omega) (by omega) (by omega) (by omega)).trans rfl
            have z2 : zdiv (y : Int) ((Nat.gcd x y : Nat) : Int) = ((y / Nat.gcd x y : Nat) : Int) := (zdiv_pos (by omega) (by omega) (by omega) (by omega)).trans rfl
            rw [z1, z2]
            by_cases q1 : d = 0
            · rw [if_pos q1, if_pos hne, if_pos (Or.inl q1)]
            · rw [if_neg q1]
              by_cases q2 : d = 2
              · rw [if_pos q2, if_pos hne, if_pos (Or.inr q2)]
              · rw [if_neg q2, if_pos hne, if_neg (fun h => h.elim q1 q2)]
          have M80 : ∀ s : Nat, 1 ≤ s → s ≤ 198 → fX11_bribes_c80 (g : Int) (f : Int) (e : Int) d (s : Int) = some (if d = 0 then ((e / s : Nat) : Int) else if d = 1 then ((f / s : Nat) : Int) else if d = 2 then ((g / s : Nat) : Int) else (((g + f) / s : Nat) : Int)) := by
            intro s s1 s2
            unfold fX11_bribes_c80
            rw [hd, zw_1, zw_2, zw_id (show -2147483648 ≤ (s : Int) ∧ (s : Int) < 2147483648 by omega)]
            have hne : ¬ (s : Int) = 0 := by omega
            have zz : ∀ m : Nat, m ≤ 198 → zdiv (m : Int) (s : Int) = ((m / s : Nat) : Int) := fun m hm => (zdiv_pos (by omega) (by omega) (by omega) (by omega)).trans rfl
            rw [zz e (by omega), zz f (by omega), zz g (by omega), show (g : Int) + (f : Int) = ((g + f : Nat) : Int) from rfl, zz (g + f) (by omega)]
            by_cases q1 : d = 0
            · rw [if_pos q1, if_pos q1, if_pos hne]
            · rw [if_neg q1, if_neg q1]
              by_cases q2 : d = 1
              · rw [if_pos q2, if_pos q2, if_pos hne]
              · rw [if_neg q2, if_neg q2]
                by_cases q3 : d = 2
                · rw [if_pos q3, if_pos q3, if_pos hne]
                · rw [if_neg q3, if_neg q3, if_pos hne]
          unfold fX10_bribes_c75
          rw [hd, zw_2]
          simp only [zif0, zif1]
          by_cases h5 : e < f
          · rw [if_neg (show ¬ (f : Int) ≤ (e : Int) by omega), if_pos (show (e : Int) < (f : Int) by omega)]
            by_cases h6 : 2 ≤ d
            · rw [if_pos h6, if_pos h6, if_pos h6, show (g : Int) + (f : Int) = ((g + f : Nat) : Int) from rfl, X108 g (g + f) (by omega) (by omega) (by omega), divM (by omega) (by omega), zb_some]
              obtain ⟨k1, k2⟩ := hgc g (g + f) (by omega) (by omega) (by omega)
              rw [M80 _ k1 k2]
              refine ⟨_, rfl, ?_⟩
              congr 1
              by_cases q3 : d = 2
              · rw [if_neg (by omega), if_neg (by omega), if_pos q3, if_pos (Or.inr q3)]
              · rw [if_neg (by omega), if_neg (by omega), if_neg q3, if_neg (by omega)]
            · rw [if_neg h6, if_neg h6, if_neg h6, X108 e f (by omega) (by omega) (by omega), divM (by omega) (by omega), zb_some]
              obtain ⟨k1, k2⟩ := hgc e f (by omega) (by omega) (by omega)
              rw [M80 _ k1 k2]
              refine ⟨_, rfl, ?_⟩
              congr 1
              by_cases q1 : d = 0
              · rw [if_pos q1, if_pos (Or.inl q1)]
              · rw [if_neg q1, if_pos (by omega), if_neg (by omega)]
          · rw [if_pos (show (f : Int) ≤ (e : Int) by omega), if_neg (show ¬ (e : Int) < (f : Int) by omega)]
            by_cases h6 : 2 ≤ d
            · rw [if_pos h6, if_pos h6]
              have := X108 0 1 (by decide) (by decide) (by decide)
              rw [show fX10_bribes_c108 N d 0 1 = _ from this]
              by_cases q3 : d = 2
              · rw [if_pos (Or.inr q3), if_pos q3]; exact ⟨_, rfl, rfl⟩
              · rw [if_neg (by omega), if_neg q3]; exact ⟨_, rfl, rfl⟩
            · rw [if_neg h6, if_neg h6]
              have := X108 1 1 (by decide) (by decide) (by decide)
              rw [show fX10_bribes_c108 N d 1 1 = _ from this, if_neg (show ¬ d = 2 by omega)]
              refine ⟨_, rfl, ?_⟩
              split <;> rfl
        · rw [if_neg h4]
          by_cases h5 : d < 0
          · rw [if_pos h5]; exact ⟨_, rfl, rfl⟩
          · rw [if_neg h5, if_neg (by omega)]; exact ⟨_, rfl, rfl⟩
      · rw [if_neg h3, if_neg h3]; exact ⟨_, rfl, rfl⟩
    · rw [if_neg h2, if_neg h2]; exact ⟨_, rfl, rfl⟩
  · rw [if_neg h1, if_neg h1]; exact ⟨_, rfl, rfl⟩
