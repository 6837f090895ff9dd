/-! A signature is made alike. -/
def kS6 (f : Nat → Int32) (o : Nat) (a b c d e h : Int32) : Nat → Int32 := upd (upd (upd (upd (upd (upd f (o + 0) a) (o + 1) b) (o + 2) c) (o + 3) d) (o + 4) e) (o + 5) h
theorem kS6_in {f g : Nat → Int32} {o o' w : Nat} {a b c d e h : Int32} (hw : w < 6) : kS6 f o a b c d e h (o + w) = kS6 g o' a b c d e h (o' + w) := by
  have hw' : w = 0 ∨ w = 1 ∨ w = 2 ∨ w = 3 ∨ w = 4 ∨ w = 5 := by omega
  unfold kS6 upd
  rcases hw' with rfl | rfl | rfl | rfl | rfl | rfl
  · rw [if_neg (by omega), if_neg (by omega), if_neg (by omega), if_neg (by omega), if_neg (by omega), if_pos rfl, if_neg (by omega), if_neg (by omega), if_neg (by omega), if_neg (by omega), if_neg (by omega), if_pos rfl]
  · rw [if_neg (by omega), if_neg (by omega), if_neg (by omega), if_neg (by omega), if_pos rfl, if_neg (by omega), if_neg (by omega), if_neg (by omega), if_neg (by omega), if_pos rfl]
  · rw [if_neg (by omega), if_neg (by omega), if_neg (by omega), if_pos rfl, if_neg (by omega), if_neg (by omega), if_neg (by omega), if_pos rfl]
  · rw [if_neg (by omega), if_neg (by omega), if_pos rfl, if_neg (by omega), if_neg (by omega), if_pos rfl]
  · rw [if_neg (by omega), if_pos rfl, if_neg (by omega), if_pos rfl]
  · rw [if_pos rfl, if_pos rfl]
theorem kS6_out {f : Nat → Int32} {o j : Nat} {a b c d e h : Int32} (hj : j < o ∨ o + 6 ≤ j) : kS6 f o a b c d e h j = f j := by
  unfold kS6 upd
  rw [if_neg (by omega), if_neg (by omega), if_neg (by omega), if_neg (by omega), if_neg (by omega), if_neg (by omega)]
theorem kS6_0 {f : Nat → Int32} {o : Nat} {a b c d e h : Int32} : kS6 f o a b c d e h o = a := by
  unfold kS6 upd
  rw [if_neg (by omega), if_neg (by omega), if_neg (by omega), if_neg (by omega), if_neg (by omega), if_pos (by omega)]
theorem kt_up6 {σ : kt_S} {p o : Nat} {a b c d e h : Int32} : kt_up (kt_up (kt_up (kt_up (kt_up (kt_up σ p (o + 0) a) p (o + 1) b) p (o + 2) c) p (o + 3) d) p (o + 4) e) p (o + 5) h = fun q => if q = p then kS6 (σ p) o a b c d e h else σ q := by
  funext q
  unfold kt_up
  by_cases z : q = p
  · rw [if_pos z, if_pos z, if_pos rfl, if_pos rfl, if_pos rfl, if_pos rfl, if_pos rfl]
    rfl
  · rw [if_neg z, if_neg z, if_neg z, if_neg z, if_neg z, if_neg z, if_neg z]
theorem kn_back (n j : Nat) : nI n - 1 + nI (j + 1) = nI (n + j) := by
  rw [show j + 1 = 1 + j by omega, ← kn_add 1 j, ← Int32.add_assoc, show nI 1 = (1 : Int32) from rfl, Int32.sub_add_cancel, kn_add]
theorem ks_make {σ : kt_S} {k : Nat} {l1 l2 l3 l4 l5 l6 : Int32} (hk : σ 4 1 = nI k) (hk2 : k < 10000) (h6 : kR_bool l6) : kp_G_make l1 l2 l3 l4 l5 l6 σ = some (fun q => if q = 5 then kS6 (σ 5) (6 * ((k + 1) % 40)) l1 l2 l3 l4 l5 l6 else kt_up σ 4 1 (nI (k + 1)) q) := by
  have m1 : nI (k + 1) - nI (k + 1) / 40 * 40 = nI ((k + 1) % 40) := pk_rem (a := k + 1) (d := 40) (by omega) (by omega) (by omega)
  have m2 : nI ((k + 1) % 40) * 6 = nI (6 * ((k + 1) % 40)) := by
    have := kn_mul ((k + 1) % 40) 6
    rw [show (k + 1) % 40 * 6 = 6 * ((k + 1) % 40) by omega] at this
    exact this
  have q1 : nI (6 * ((k + 1) % 40)) - 1 + 1 = nI (6 * ((k + 1) % 40) + 0) := kn_back _ 0
  have q2 : nI (6 * ((k + 1) % 40)) - 1 + 2 = nI (6 * ((k + 1) % 40) + 1) := kn_back _ 1
  have q3 : nI (6 * ((k + 1) % 40)) - 1 + 3 = nI (6 * ((k + 1) % 40) + 2) := kn_back _ 2
  have q4 : nI (6 * ((k + 1) % 40)) - 1 + 4 = nI (6 * ((k + 1) % 40) + 3) := kn_back _ 3
  have q5 : nI (6 * ((k + 1) % 40)) - 1 + 5 = nI (6 * ((k + 1) % 40) + 4) := kn_back _ 4
  have q6 : nI (6 * ((k + 1) % 40)) - 1 + 6 = nI (6 * ((k + 1) % 40) + 5) := kn_back _ 5
  unfold kp_G_make kp_G_make_0 kp_G_make_95
  rw [hk, kn_succ, m1, m2, q1, q2, q3, q4, q5, q6, if_neg (kn_in (by omega) (by omega)), if_neg (kn_in (by omega) (by omega)), if_neg (kn_in (by omega) (by omega)), if_neg (kn_in (by omega) (by omega)), if_neg (kn_in (by omega) (by omega)), if_neg (kn_in (by omega) (by omega)), if_neg (kn_in (by omega) (by omega))]
  have c : ∀ j, j < 6 → (nI (6 * ((k + 1) % 40) + j)).toNatClampNeg = 6 * ((k + 1) % 40) + j := fun j hj => kn_cl (by omega)
  rw [c 0 (by omega), c 1 (by omega), c 2 (by omega), c 3 (by omega), c 4 (by omega), c 5 (by omega), kt_up6, kt_up6]
  rcases h6 with rfl | rfl
  · rw [if_pos rfl]
    rfl
  · rw [if_neg ki_10]
    rfl
theorem km_sign {τ : kt_S} {k : Nat} {l1 l2 l3 l4 l5 l6 : Int32} (hk : τ 0 19 = nI k) (hk2 : k < 10000) : kp_M_sign l1 l2 l3 l4 l5 l6 τ = some (fun q => if q = 5 then kS6 (τ 5) (6 * (k % 40)) l1 l2 l3 l4 l5 l6 else kt_up τ 0 19 (nI (k + 1)) q) := by
  have m1 : nI k - nI k / 40 * 40 = nI (k % 40) := pk_rem (a := k) (d := 40) (by omega) (by omega) (by omega)
  have q0 : (6 : Int32) * nI (k % 40) = nI (6 * (k % 40) + 0) := km_idx0 _
  have q1 : nI (6 * (k % 40) + 0) + 1 = nI (6 * (k % 40) + 1) := kn_add _ 1
  have q2 : nI (6 * (k % 40) + 0) + 2 = nI (6 * (k % 40) + 2) := kn_add _ 2
  have q3 : nI (6 * (k % 40) + 0) + 3 = nI (6 * (k % 40) + 3) := kn_add _ 3
  have q4 : nI (6 * (k % 40) + 0) + 4 = nI (6 * (k % 40) + 4) := kn_add _ 4
  have q5 : nI (6 * (k % 40) + 0) + 5 = nI (6 * (k % 40) + 5) := kn_add _ 5
  unfold kp_M_sign kp_M_sign_0
  rw [hk, m1, q0, q1, q2, q3, q4, q5, if_neg (kn_in (by omega) (by omega)), if_neg (kn_in (by omega) (by omega)), if_neg (kn_in (by omega) (by omega)), if_neg (kn_in (by omega) (by omega)), if_neg (kn_in (by omega) (by omega)), if_neg (kn_in (by omega) (by omega)), kn_succ]
  have c : ∀ j, j < 6 → (nI (6 * (k % 40) + j)).toNatClampNeg = 6 * (k % 40) + j := fun j hj => kn_cl (by omega)
  rw [c 0 (by omega), c 1 (by omega), c 2 (by omega), c 3 (by omega), c 4 (by omega), c 5 (by omega), kt_up6]
  rfl
theorem kR_sign {σ σ' τ τ' : kt_S} {k : Nat} {l1 l2 l3 l4 l5 l6 : Int32} (hk : σ 4 1 = nI k) (hk2 : k < 10000) (ht : l1 = 1 ∨ l1 = 2) (H : kR_sig σ τ) (h5 : σ' 5 = kS6 (σ 5) (6 * ((k + 1) % 40)) l1 l2 l3 l4 l5 l6) (h4 : σ' 4 1 = nI (k + 1)) (h5t : τ' 5 = kS6 (τ 5) (6 * (k % 40)) l1 l2 l3 l4 l5 l6) : kR_sig σ' τ' := by
  refine ⟨fun r w hr hw => ?_, fun k' i hb hk' hi hik hki => ?_⟩
  · rw [h5, h5t]
    by_cases z : r = k % 40
    · subst z
      rw [show (k % 40 + 1) % 40 = (k + 1) % 40 by omega]
      exact kS6_in hw
    · rw [kS6_out (by omega), kS6_out (by omega)]
      exact H.1 r w hr hw
  · rw [h4] at hk'
    have hkk : k + 1 = k' := (kn_eq (by omega) hb).mp hk'
    subst hkk
    rw [h5]
    by_cases z : i = k + 1
    · rw [z, kS6_0]
      exact ht
    · rw [kS6_out (by omega)]
      exact H.2 k i (by omega) hk hi (by omega) (by omega)
