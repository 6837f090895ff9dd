/-! The worlds as the constructors make them, in the form of the methods. -/
def kj_wC (h0 : Nat) (u : Nat → Nat) (cA : Nat → ClassId) : va_W := [(h0, .inr (6, [.ref (u 1), .ref (u 15), .int 0])), ((u 1), .inr (5, [.ref (u 2), .ref (u 4), .ref (u 6), .ref (u 12), .ref (u 14), .int (nI 1), .int 0, .int 0, .int 0, .int 0, .int 0, .int 0, .int 0, .int 0, .int 0])), ((u 2), .inr (4, [.ref (u 3), .int 0, .int (-1)])), ((u 3), .inl (cA 0, 42, .inl (fun _ => (-1)))), ((u 4), .inr (3, [.ref (u 5), .int 0])), ((u 5), .inl (cA 0, 240, .inl (fun _ => 0))), ((u 6), .inr (2, [.ref (u 7), .ref (u 9), .ref (u 10), .ref (u 11), .int 0, .int 0, .int 0])), ((u 7), .inr (0, [.ref (u 8), .int 0, .int 0])), ((u 8), .inl (cA 0, 48, .inl (fun _ => 0))), ((u 9), .inl (cA 0, 9, .inl (fun _ => 0))), ((u 10), .inl (cA 0, 9, .inl (fun _ => 0))), ((u 11), .inl (cA 0, 9, .inl (fun _ => 0))), ((u 12), .inr (0, [.ref (u 13), .int 0, .int 0])), ((u 13), .inl (cA 0, 80, .inl (fun _ => 0))), ((u 14), .inl (cA 0, 6, .inl (fun _ => 0))), ((u 15), .inl (cA 2, 4, .inr (.inr (.inr (.inr (va_up (va_up (va_up (va_up (fun _ => none) 0 (some (u 16))) 1 (some (u 20))) 2 (some (u 24))) 3 (some (u 28)))))))), ((u 16), .inr (1, [.int (nI 0), .ref (u 17), .ref (u 18), .ref (u 19), .int 0, .int 0, .int 0])), ((u 17), .inl (cA 0, 6, .inl (fun _ => 0))), ((u 18), .inl (cA 0, 6, .inl (fun _ => 0))), ((u 19), .inl (cA 0, 6, .inl (fun _ => 0))), ((u 20), .inr (1, [.int (nI 1), .ref (u 21), .ref (u 22), .ref (u 23), .int 0, .int 0, .int 0])), ((u 21), .inl (cA 0, 6, .inl (fun _ => 0))), ((u 22), .inl (cA 0, 6, .inl (fun _ => 0))), ((u 23), .inl (cA 0, 6, .inl (fun _ => 0))), ((u 24), .inr (1, [.int (nI 2), .ref (u 25), .ref (u 26), .ref (u 27), .int 0, .int 0, .int 0])), ((u 25), .inl (cA 0, 6, .inl (fun _ => 0))), ((u 26), .inl (cA 0, 6, .inl (fun _ => 0))), ((u 27), .inl (cA 0, 6, .inl (fun _ => 0))), ((u 28), .inr (1, [.int (nI 3), .ref (u 29), .ref (u 30), .ref (u 31), .int 0, .int 0, .int 0])), ((u 29), .inl (cA 0, 6, .inl (fun _ => 0))), ((u 30), .inl (cA 0, 6, .inl (fun _ => 0))), ((u 31), .inl (cA 0, 6, .inl (fun _ => 0)))]
def kj_wM (h0 : Nat) (u : Nat → Nat) (cA : Nat → ClassId) : va_W := [(h0, .inr (7, [.int 0, .ref (u 1), .int 0, .int 0, .int (-1), .int (nI 1), .int 0, .int 0, .int 0, .ref (u 2), .int 0, .ref (u 3), .int 0, .int 0, .ref (u 4), .int 0, .int 0, .int 0, .int 0, .int 0, .int 0, .ref (u 5), .int 0, .int 0, .int 0, .int 0, .ref (u 6), .ref (u 7), .ref (u 8), .ref (u 9), .int 0, .ref (u 10), .ref (u 11), .ref (u 12), .ref (u 13), .ref (u 14), .ref (u 15), .ref (u 16), .ref (u 17), .ref (u 18)])), ((u 1), .inl (cA 0, 42, .inl (fun _ => -1))), ((u 2), .inl (cA 0, 48, .inl (fun _ => 0))), ((u 3), .inl (cA 0, 80, .inl (fun _ => 0))), ((u 4), .inl (cA 0, 6, .inl (fun _ => 0))), ((u 5), .inl (cA 0, 240, .inl (fun _ => 0))), ((u 6), .inl (cA 1, 4, .inl (fun _ => 0))), ((u 7), .inl (cA 0, 4, .inl (fun _ => 0))), ((u 8), .inl (cA 0, 4, .inl (fun _ => 0))), ((u 9), .inl (cA 1, 4, .inl (fun _ => 0))), ((u 10), .inl (cA 0, 24, .inl (fun _ => 0))), ((u 11), .inl (cA 0, 24, .inl (fun _ => 0))), ((u 12), .inl (cA 0, 24, .inl (fun _ => 0))), ((u 13), .inl (cA 0, 24, .inl (fun _ => 0))), ((u 14), .inl (cA 1, 24, .inl (fun _ => 0))), ((u 15), .inl (cA 0, 4, .inl (fun _ => 0))), ((u 16), .inl (cA 0, 72, .inl (fun _ => 0))), ((u 17), .inl (cA 0, 4, .inl (fun _ => 0))), ((u 18), .inl (cA 0, 4, .inl (fun _ => 0)))]
def kj_fC : List Value := [.null, .null, .int 0]
def kj_fM : List Value := [.int 0, .null, .int 0, .int 0, .int 0, .int 0, .int 0, .int 0, .int 0, .null, .int 0, .null, .int 0, .int 0, .null, .int 0, .int 0, .int 0, .int 0, .int 0, .int 0, .null, .int 0, .int 0, .int 0, .int 0, .null, .null, .null, .null, .int 0, .null, .null, .null, .null, .null, .null, .null, .null, .null]
theorem kj_cC (l : Launch) : kx_C l ky_K_init kb_K_init 2 4 31 580 6 [] kj_fC kj_wC := kc_K_init l
theorem kj_cM (l : Launch) : kx_C l ky_M_init kb_M_init 2 1 18 636 7 [] kj_fM kj_wM := kc_M_init l
def kl_as (h0 : Nat) (u sa : Nat → Nat) : Nat → Nat := fun q => if q = 0 then h0 else if q < 100 then u q else sa (q - 100)
theorem kj_get {sh : kt_Sh} {as : Nat → Nat} {cA : Nat → ClassId} {σ : kt_S} {D : va_G} {H : Heap} {k : Nat} {q : Nat × va_E} {z : Nat × Nat × List Nat} (hk : (kt_w sh as cA σ)[k]? = some q) (hz : sh[k]? = some z) (h : va_at D vwCl (as k, kt_e as cA (σ k) z) H) : va_at D vwCl q H := by
  rw [kt_w_get hz] at hk
  cases hk
  exact h
theorem kj_at {D : va_G} {a a' : Nat} {e e' : va_E} {H : Heap} (h : va_at D vwCl (a, e) H) (ha : a = a') (he : e = e') : va_at D vwCl (a', e') H := by
  subst ha
  subst he
  exact h
theorem kj_refs {D : va_G} {cI : ClassId} {n a : Nat} {f g : Nat → Option Nat} {H : Heap} (h : ∀ j, j < n → f j = g j) (hf : va_at D vwCl (a, .inl (cI, n, .inr (.inr (.inr (.inr f))))) H) : va_at D vwCl (a, .inl (cI, n, .inr (.inr (.inr (.inr g))))) H := by
  have h1 : H[a]? = some (arrV cI n (fun j => va_rf (f j))) := hf
  have h2 : arrV cI n (fun j => va_rf (f j)) = arrV cI n (fun j => va_rf (g j)) := arrV_congr (fun j hj => by rw [h j hj])
  show H[a]? = some (arrV cI n (fun j => va_rf (g j)))
  rw [← h2]
  exact h1
theorem kj_lt {sh : kt_Sh} {as : Nat → Nat} {cA : Nat → ClassId} {σ : kt_S} {k : Nat} {q : Nat × va_E} (hk : (kt_w sh as cA σ)[k]? = some q) : k < sh.length := (kt_w_inv hk).1
set_option maxHeartbeats 400000 in
theorem kj_C_0 {D : va_G} {H : Heap} {h0 : Nat} {u sa : Nat → Nat} {cA : Nat → ClassId} (hP : va_P D vwCl (kj_wC h0 u cA) H) : va_at D vwCl (kl_as h0 u sa 0, kt_e (kl_as h0 u sa) cA (kI_σ 0) (3, 6, [3, 17, 0])) H := kj_at (hP 0 _ rfl) rfl rfl
set_option maxHeartbeats 400000 in
theorem kj_C_1 {D : va_G} {H : Heap} {h0 : Nat} {u sa : Nat → Nat} {cA : Nat → ClassId} (hP : va_P D vwCl (kj_wC h0 u cA) H) : va_at D vwCl (kl_as h0 u sa 1, kt_e (kl_as h0 u sa) cA (kI_σ 1) (3, 5, [4, 6, 8, 14, 16, 1, 1, 0, 0, 0, 0, 0, 1, 0, 0])) H := kj_at (hP 1 _ rfl) rfl rfl
set_option maxHeartbeats 400000 in
theorem kj_C_2 {D : va_G} {H : Heap} {h0 : Nat} {u sa : Nat → Nat} {cA : Nat → ClassId} (hP : va_P D vwCl (kj_wC h0 u cA) H) : va_at D vwCl (kl_as h0 u sa 2, kt_e (kl_as h0 u sa) cA (kI_σ 2) (3, 4, [5, 0, 0])) H := kj_at (hP 2 _ rfl) rfl rfl
set_option maxHeartbeats 400000 in
theorem kj_C_3 {D : va_G} {H : Heap} {h0 : Nat} {u sa : Nat → Nat} {cA : Nat → ClassId} (hP : va_P D vwCl (kj_wC h0 u cA) H) : va_at D vwCl (kl_as h0 u sa 3, kt_e (kl_as h0 u sa) cA (kI_σ 3) (0, 42, [])) H := kj_at (hP 3 _ rfl) rfl rfl
set_option maxHeartbeats 400000 in
theorem kj_C_4 {D : va_G} {H : Heap} {h0 : Nat} {u sa : Nat → Nat} {cA : Nat → ClassId} (hP : va_P D vwCl (kj_wC h0 u cA) H) : va_at D vwCl (kl_as h0 u sa 4, kt_e (kl_as h0 u sa) cA (kI_σ 4) (3, 3, [7, 0])) H := kj_at (hP 4 _ rfl) rfl rfl
set_option maxHeartbeats 400000 in
theorem kj_C_5 {D : va_G} {H : Heap} {h0 : Nat} {u sa : Nat → Nat} {cA : Nat → ClassId} (hP : va_P D vwCl (kj_wC h0 u cA) H) : va_at D vwCl (kl_as h0 u sa 5, kt_e (kl_as h0 u sa) cA (kI_σ 5) (0, 240, [])) H := kj_at (hP 5 _ rfl) rfl rfl
set_option maxHeartbeats 400000 in
theorem kj_C_6 {D : va_G} {H : Heap} {h0 : Nat} {u sa : Nat → Nat} {cA : Nat → ClassId} (hP : va_P D vwCl (kj_wC h0 u cA) H) : va_at D vwCl (kl_as h0 u sa 6, kt_e (kl_as h0 u sa) cA (kI_σ 6) (3, 2, [9, 11, 12, 13, 0, 0, 0])) H := kj_at (hP 6 _ rfl) rfl rfl
set_option maxHeartbeats 400000 in
theorem kj_C_7 {D : va_G} {H : Heap} {h0 : Nat} {u sa : Nat → Nat} {cA : Nat → ClassId} (hP : va_P D vwCl (kj_wC h0 u cA) H) : va_at D vwCl (kl_as h0 u sa 7, kt_e (kl_as h0 u sa) cA (kI_σ 7) (3, 0, [10, 0, 0])) H := kj_at (hP 7 _ rfl) rfl rfl
set_option maxHeartbeats 400000 in
theorem kj_C_8 {D : va_G} {H : Heap} {h0 : Nat} {u sa : Nat → Nat} {cA : Nat → ClassId} (hP : va_P D vwCl (kj_wC h0 u cA) H) : va_at D vwCl (kl_as h0 u sa 8, kt_e (kl_as h0 u sa) cA (kI_σ 8) (0, 48, [])) H := kj_at (hP 8 _ rfl) rfl rfl
set_option maxHeartbeats 400000 in
theorem kj_C_9 {D : va_G} {H : Heap} {h0 : Nat} {u sa : Nat → Nat} {cA : Nat → ClassId} (hP : va_P D vwCl (kj_wC h0 u cA) H) : va_at D vwCl (kl_as h0 u sa 9, kt_e (kl_as h0 u sa) cA (kI_σ 9) (0, 9, [])) H := kj_at (hP 9 _ rfl) rfl rfl
set_option maxHeartbeats 400000 in
theorem kj_C_10 {D : va_G} {H : Heap} {h0 : Nat} {u sa : Nat → Nat} {cA : Nat → ClassId} (hP : va_P D vwCl (kj_wC h0 u cA) H) : va_at D vwCl (kl_as h0 u sa 10, kt_e (kl_as h0 u sa) cA (kI_σ 10) (0, 9, [])) H := kj_at (hP 10 _ rfl) rfl rfl
set_option maxHeartbeats 400000 in
theorem kj_C_11 {D : va_G} {H : Heap} {h0 : Nat} {u sa : Nat → Nat} {cA : Nat → ClassId} (hP : va_P D vwCl (kj_wC h0 u cA) H) : va_at D vwCl (kl_as h0 u sa 11, kt_e (kl_as h0 u sa) cA (kI_σ 11) (0, 9, [])) H := kj_at (hP 11 _ rfl) rfl rfl
set_option maxHeartbeats 400000 in
theorem kj_C_12 {D : va_G} {H : Heap} {h0 : Nat} {u sa : Nat → Nat} {cA : Nat → ClassId} (hP : va_P D vwCl (kj_wC h0 u cA) H) : va_at D vwCl (kl_as h0 u sa 12, kt_e (kl_as h0 u sa) cA (kI_σ 12) (3, 0, [15, 0, 0])) H := kj_at (hP 12 _ rfl) rfl rfl
set_option maxHeartbeats 400000 in
theorem kj_C_13 {D : va_G} {H : Heap} {h0 : Nat} {u sa : Nat → Nat} {cA : Nat → ClassId} (hP : va_P D vwCl (kj_wC h0 u cA) H) : va_at D vwCl (kl_as h0 u sa 13, kt_e (kl_as h0 u sa) cA (kI_σ 13) (0, 80, [])) H := kj_at (hP 13 _ rfl) rfl rfl
set_option maxHeartbeats 400000 in
theorem kj_C_14 {D : va_G} {H : Heap} {h0 : Nat} {u sa : Nat → Nat} {cA : Nat → ClassId} (hP : va_P D vwCl (kj_wC h0 u cA) H) : va_at D vwCl (kl_as h0 u sa 14, kt_e (kl_as h0 u sa) cA (kI_σ 14) (0, 6, [])) H := kj_at (hP 14 _ rfl) rfl rfl
set_option maxHeartbeats 400000 in
theorem kj_C_15 {D : va_G} {H : Heap} {h0 : Nat} {u sa : Nat → Nat} {cA : Nat → ClassId} (hP : va_P D vwCl (kj_wC h0 u cA) H) : va_at D vwCl (kl_as h0 u sa 15, kt_e (kl_as h0 u sa) cA (kI_σ 15) (2, 4, [16, 20, 24, 28])) H := kj_at (kj_refs (g := fun i => ([16, 20, 24, 28][i]?).map (kl_as h0 u sa)) (fun j hj => by rcases (by omega : j = 0 ∨ j = 1 ∨ j = 2 ∨ j = 3) with rfl | rfl | rfl | rfl <;> rfl) (hP 15 _ rfl)) rfl rfl
set_option maxHeartbeats 400000 in
theorem kj_C_16 {D : va_G} {H : Heap} {h0 : Nat} {u sa : Nat → Nat} {cA : Nat → ClassId} (hP : va_P D vwCl (kj_wC h0 u cA) H) : va_at D vwCl (kl_as h0 u sa 16, kt_e (kl_as h0 u sa) cA (kI_σ 16) (3, 1, [0, 19, 20, 21, 0, 0, 0])) H := kj_at (hP 16 _ rfl) rfl rfl
set_option maxHeartbeats 400000 in
theorem kj_C_17 {D : va_G} {H : Heap} {h0 : Nat} {u sa : Nat → Nat} {cA : Nat → ClassId} (hP : va_P D vwCl (kj_wC h0 u cA) H) : va_at D vwCl (kl_as h0 u sa 17, kt_e (kl_as h0 u sa) cA (kI_σ 17) (0, 6, [])) H := kj_at (hP 17 _ rfl) rfl rfl
set_option maxHeartbeats 400000 in
theorem kj_C_18 {D : va_G} {H : Heap} {h0 : Nat} {u sa : Nat → Nat} {cA : Nat → ClassId} (hP : va_P D vwCl (kj_wC h0 u cA) H) : va_at D vwCl (kl_as h0 u sa 18, kt_e (kl_as h0 u sa) cA (kI_σ 18) (0, 6, [])) H := kj_at (hP 18 _ rfl) rfl rfl
set_option maxHeartbeats 400000 in
theorem kj_C_19 {D : va_G} {H : Heap} {h0 : Nat} {u sa : Nat → Nat} {cA : Nat → ClassId} (hP : va_P D vwCl (kj_wC h0 u cA) H) : va_at D vwCl (kl_as h0 u sa 19, kt_e (kl_as h0 u sa) cA (kI_σ 19) (0, 6, [])) H := kj_at (hP 19 _ rfl) rfl rfl
set_option maxHeartbeats 400000 in
theorem kj_C_20 {D : va_G} {H : Heap} {h0 : Nat} {u sa : Nat → Nat} {cA : Nat → ClassId} (hP : va_P D vwCl (kj_wC h0 u cA) H) : va_at D vwCl (kl_as h0 u sa 20, kt_e (kl_as h0 u sa) cA (kI_σ 20) (3, 1, [0, 23, 24, 25, 0, 0, 0])) H := kj_at (hP 20 _ rfl) rfl rfl
set_option maxHeartbeats 400000 in
theorem kj_C_21 {D : va_G} {H : Heap} {h0 : Nat} {u sa : Nat → Nat} {cA : Nat → ClassId} (hP : va_P D vwCl (kj_wC h0 u cA) H) : va_at D vwCl (kl_as h0 u sa 21, kt_e (kl_as h0 u sa) cA (kI_σ 21) (0, 6, [])) H := kj_at (hP 21 _ rfl) rfl rfl
set_option maxHeartbeats 400000 in
theorem kj_C_22 {D : va_G} {H : Heap} {h0 : Nat} {u sa : Nat → Nat} {cA : Nat → ClassId} (hP : va_P D vwCl (kj_wC h0 u cA) H) : va_at D vwCl (kl_as h0 u sa 22, kt_e (kl_as h0 u sa) cA (kI_σ 22) (0, 6, [])) H := kj_at (hP 22 _ rfl) rfl rfl
set_option maxHeartbeats 400000 in
theorem kj_C_23 {D : va_G} {H : Heap} {h0 : Nat} {u sa : Nat → Nat} {cA : Nat → ClassId} (hP : va_P D vwCl (kj_wC h0 u cA) H) : va_at D vwCl (kl_as h0 u sa 23, kt_e (kl_as h0 u sa) cA (kI_σ 23) (0, 6, [])) H := kj_at (hP 23 _ rfl) rfl rfl
set_option maxHeartbeats 400000 in
theorem kj_C_24 {D : va_G} {H : Heap} {h0 : Nat} {u sa : Nat → Nat} {cA : Nat → ClassId} (hP : va_P D vwCl (kj_wC h0 u cA) H) : va_at D vwCl (kl_as h0 u sa 24, kt_e (kl_as h0 u sa) cA (kI_σ 24) (3, 1, [0, 27, 28, 29, 0, 0, 0])) H := kj_at (hP 24 _ rfl) rfl rfl
set_option maxHeartbeats 400000 in
theorem kj_C_25 {D : va_G} {H : Heap} {h0 : Nat} {u sa : Nat → Nat} {cA : Nat → ClassId} (hP : va_P D vwCl (kj_wC h0 u cA) H) : va_at D vwCl (kl_as h0 u sa 25, kt_e (kl_as h0 u sa) cA (kI_σ 25) (0, 6, [])) H := kj_at (hP 25 _ rfl) rfl rfl
set_option maxHeartbeats 400000 in
theorem kj_C_26 {D : va_G} {H : Heap} {h0 : Nat} {u sa : Nat → Nat} {cA : Nat → ClassId} (hP : va_P D vwCl (kj_wC h0 u cA) H) : va_at D vwCl (kl_as h0 u sa 26, kt_e (kl_as h0 u sa) cA (kI_σ 26) (0, 6, [])) H := kj_at (hP 26 _ rfl) rfl rfl
set_option maxHeartbeats 400000 in
theorem kj_C_27 {D : va_G} {H : Heap} {h0 : Nat} {u sa : Nat → Nat} {cA : Nat → ClassId} (hP : va_P D vwCl (kj_wC h0 u cA) H) : va_at D vwCl (kl_as h0 u sa 27, kt_e (kl_as h0 u sa) cA (kI_σ 27) (0, 6, [])) H := kj_at (hP 27 _ rfl) rfl rfl
set_option maxHeartbeats 400000 in
theorem kj_C_28 {D : va_G} {H : Heap} {h0 : Nat} {u sa : Nat → Nat} {cA : Nat → ClassId} (hP : va_P D vwCl (kj_wC h0 u cA) H) : va_at D vwCl (kl_as h0 u sa 28, kt_e (kl_as h0 u sa) cA (kI_σ 28) (3, 1, [0, 31, 32, 33, 0, 0, 0])) H := kj_at (hP 28 _ rfl) rfl rfl
set_option maxHeartbeats 400000 in
theorem kj_C_29 {D : va_G} {H : Heap} {h0 : Nat} {u sa : Nat → Nat} {cA : Nat → ClassId} (hP : va_P D vwCl (kj_wC h0 u cA) H) : va_at D vwCl (kl_as h0 u sa 29, kt_e (kl_as h0 u sa) cA (kI_σ 29) (0, 6, [])) H := kj_at (hP 29 _ rfl) rfl rfl
set_option maxHeartbeats 400000 in
theorem kj_C_30 {D : va_G} {H : Heap} {h0 : Nat} {u sa : Nat → Nat} {cA : Nat → ClassId} (hP : va_P D vwCl (kj_wC h0 u cA) H) : va_at D vwCl (kl_as h0 u sa 30, kt_e (kl_as h0 u sa) cA (kI_σ 30) (0, 6, [])) H := kj_at (hP 30 _ rfl) rfl rfl
set_option maxHeartbeats 400000 in
theorem kj_C_31 {D : va_G} {H : Heap} {h0 : Nat} {u sa : Nat → Nat} {cA : Nat → ClassId} (hP : va_P D vwCl (kj_wC h0 u cA) H) : va_at D vwCl (kl_as h0 u sa 31, kt_e (kl_as h0 u sa) cA (kI_σ 31) (0, 6, [])) H := kj_at (hP 31 _ rfl) rfl rfl
theorem kj_C {D : va_G} {H : Heap} {h0 : Nat} {u sa : Nat → Nat} {cA : Nat → ClassId} (hP : va_P D vwCl (kj_wC h0 u cA) H) : va_P D vwCl (kt_w kt_shC (kl_as h0 u sa) cA kI_σ) H := by
  intro k q hk
  have hlt : k < 32 := kj_lt hk
  rcases (by omega : k = 0 ∨ k = 1 ∨ k = 2 ∨ k = 3 ∨ k = 4 ∨ k = 5 ∨ k = 6 ∨ k = 7 ∨ k = 8 ∨ k = 9 ∨ k = 10 ∨ k = 11 ∨ k = 12 ∨ k = 13 ∨ k = 14 ∨ k = 15 ∨ k = 16 ∨ k = 17 ∨ k = 18 ∨ k = 19 ∨ k = 20 ∨ k = 21 ∨ k = 22 ∨ k = 23 ∨ k = 24 ∨ k = 25 ∨ k = 26 ∨ k = 27 ∨ k = 28 ∨ k = 29 ∨ k = 30 ∨ k = 31) with rfl | rfl | rfl | rfl | rfl | rfl | rfl | rfl | rfl | rfl | rfl | rfl | rfl | rfl | rfl | rfl | rfl | rfl | rfl | rfl | rfl | rfl | rfl | rfl | rfl | rfl | rfl | rfl | rfl | rfl | rfl | rfl
  · exact kj_get hk rfl (kj_C_0 hP)
  · exact kj_get hk rfl (kj_C_1 hP)
  · exact kj_get hk rfl (kj_C_2 hP)
  · exact kj_get hk rfl (kj_C_3 hP)
  · exact kj_get hk rfl (kj_C_4 hP)
  · exact kj_get hk rfl (kj_C_5 hP)
  · exact kj_get hk rfl (kj_C_6 hP)
  · exact kj_get hk rfl (kj_C_7 hP)
  · exact kj_get hk rfl (kj_C_8 hP)
  · exact kj_get hk rfl (kj_C_9 hP)
  · exact kj_get hk rfl (kj_C_10 hP)
  · exact kj_get hk rfl (kj_C_11 hP)
  · exact kj_get hk rfl (kj_C_12 hP)
  · exact kj_get hk rfl (kj_C_13 hP)
  · exact kj_get hk rfl (kj_C_14 hP)
  · exact kj_get hk rfl (kj_C_15 hP)
  · exact kj_get hk rfl (kj_C_16 hP)
  · exact kj_get hk rfl (kj_C_17 hP)
  · exact kj_get hk rfl (kj_C_18 hP)
  · exact kj_get hk rfl (kj_C_19 hP)
  · exact kj_get hk rfl (kj_C_20 hP)
  · exact kj_get hk rfl (kj_C_21 hP)
  · exact kj_get hk rfl (kj_C_22 hP)
  · exact kj_get hk rfl (kj_C_23 hP)
  · exact kj_get hk rfl (kj_C_24 hP)
  · exact kj_get hk rfl (kj_C_25 hP)
  · exact kj_get hk rfl (kj_C_26 hP)
  · exact kj_get hk rfl (kj_C_27 hP)
  · exact kj_get hk rfl (kj_C_28 hP)
  · exact kj_get hk rfl (kj_C_29 hP)
  · exact kj_get hk rfl (kj_C_30 hP)
  · exact kj_get hk rfl (kj_C_31 hP)
set_option maxHeartbeats 400000 in
theorem kj_M_0 {D : va_G} {H : Heap} {h0 : Nat} {u sa : Nat → Nat} {cA : Nat → ClassId} (hP : va_P D vwCl (kj_wM h0 u cA) H) : va_at D vwCl (kl_as h0 u sa 0, kt_e (kl_as h0 u sa) cA (kI_τ 0) (3, 7, [0, 3, 0, 0, 0, 1, 1, 0, 0, 4, 0, 5, 0, 0, 6, 0, 0, 0, 0, 0, 0, 7, 0, 0, 0, 1, 8, 9, 10, 11, 0, 12, 13, 14, 15, 16, 17, 18, 19, 20])) H := kj_at (hP 0 _ rfl) rfl (congrArg (fun z => (Sum.inr (7, z) : va_E)) (by simp only [List.mapIdx_cons, List.mapIdx_nil]; rfl))
set_option maxHeartbeats 400000 in
theorem kj_M_1 {D : va_G} {H : Heap} {h0 : Nat} {u sa : Nat → Nat} {cA : Nat → ClassId} (hP : va_P D vwCl (kj_wM h0 u cA) H) : va_at D vwCl (kl_as h0 u sa 1, kt_e (kl_as h0 u sa) cA (kI_τ 1) (0, 42, [])) H := kj_at (hP 1 _ rfl) rfl rfl
set_option maxHeartbeats 400000 in
theorem kj_M_2 {D : va_G} {H : Heap} {h0 : Nat} {u sa : Nat → Nat} {cA : Nat → ClassId} (hP : va_P D vwCl (kj_wM h0 u cA) H) : va_at D vwCl (kl_as h0 u sa 2, kt_e (kl_as h0 u sa) cA (kI_τ 2) (0, 48, [])) H := kj_at (hP 2 _ rfl) rfl rfl
set_option maxHeartbeats 400000 in
theorem kj_M_3 {D : va_G} {H : Heap} {h0 : Nat} {u sa : Nat → Nat} {cA : Nat → ClassId} (hP : va_P D vwCl (kj_wM h0 u cA) H) : va_at D vwCl (kl_as h0 u sa 3, kt_e (kl_as h0 u sa) cA (kI_τ 3) (0, 80, [])) H := kj_at (hP 3 _ rfl) rfl rfl
set_option maxHeartbeats 400000 in
theorem kj_M_4 {D : va_G} {H : Heap} {h0 : Nat} {u sa : Nat → Nat} {cA : Nat → ClassId} (hP : va_P D vwCl (kj_wM h0 u cA) H) : va_at D vwCl (kl_as h0 u sa 4, kt_e (kl_as h0 u sa) cA (kI_τ 4) (0, 6, [])) H := kj_at (hP 4 _ rfl) rfl rfl
set_option maxHeartbeats 400000 in
theorem kj_M_5 {D : va_G} {H : Heap} {h0 : Nat} {u sa : Nat → Nat} {cA : Nat → ClassId} (hP : va_P D vwCl (kj_wM h0 u cA) H) : va_at D vwCl (kl_as h0 u sa 5, kt_e (kl_as h0 u sa) cA (kI_τ 5) (0, 240, [])) H := kj_at (hP 5 _ rfl) rfl rfl
set_option maxHeartbeats 400000 in
theorem kj_M_6 {D : va_G} {H : Heap} {h0 : Nat} {u sa : Nat → Nat} {cA : Nat → ClassId} (hP : va_P D vwCl (kj_wM h0 u cA) H) : va_at D vwCl (kl_as h0 u sa 6, kt_e (kl_as h0 u sa) cA (kI_τ 6) (1, 4, [])) H := kj_at (hP 6 _ rfl) rfl rfl
set_option maxHeartbeats 400000 in
theorem kj_M_7 {D : va_G} {H : Heap} {h0 : Nat} {u sa : Nat → Nat} {cA : Nat → ClassId} (hP : va_P D vwCl (kj_wM h0 u cA) H) : va_at D vwCl (kl_as h0 u sa 7, kt_e (kl_as h0 u sa) cA (kI_τ 7) (0, 4, [])) H := kj_at (hP 7 _ rfl) rfl rfl
set_option maxHeartbeats 400000 in
theorem kj_M_8 {D : va_G} {H : Heap} {h0 : Nat} {u sa : Nat → Nat} {cA : Nat → ClassId} (hP : va_P D vwCl (kj_wM h0 u cA) H) : va_at D vwCl (kl_as h0 u sa 8, kt_e (kl_as h0 u sa) cA (kI_τ 8) (0, 4, [])) H := kj_at (hP 8 _ rfl) rfl rfl
set_option maxHeartbeats 400000 in
theorem kj_M_9 {D : va_G} {H : Heap} {h0 : Nat} {u sa : Nat → Nat} {cA : Nat → ClassId} (hP : va_P D vwCl (kj_wM h0 u cA) H) : va_at D vwCl (kl_as h0 u sa 9, kt_e (kl_as h0 u sa) cA (kI_τ 9) (1, 4, [])) H := kj_at (hP 9 _ rfl) rfl rfl
set_option maxHeartbeats 400000 in
theorem kj_M_10 {D : va_G} {H : Heap} {h0 : Nat} {u sa : Nat → Nat} {cA : Nat → ClassId} (hP : va_P D vwCl (kj_wM h0 u cA) H) : va_at D vwCl (kl_as h0 u sa 10, kt_e (kl_as h0 u sa) cA (kI_τ 10) (0, 24, [])) H := kj_at (hP 10 _ rfl) rfl rfl
set_option maxHeartbeats 400000 in
theorem kj_M_11 {D : va_G} {H : Heap} {h0 : Nat} {u sa : Nat → Nat} {cA : Nat → ClassId} (hP : va_P D vwCl (kj_wM h0 u cA) H) : va_at D vwCl (kl_as h0 u sa 11, kt_e (kl_as h0 u sa) cA (kI_τ 11) (0, 24, [])) H := kj_at (hP 11 _ rfl) rfl rfl
set_option maxHeartbeats 400000 in
theorem kj_M_12 {D : va_G} {H : Heap} {h0 : Nat} {u sa : Nat → Nat} {cA : Nat → ClassId} (hP : va_P D vwCl (kj_wM h0 u cA) H) : va_at D vwCl (kl_as h0 u sa 12, kt_e (kl_as h0 u sa) cA (kI_τ 12) (0, 24, [])) H := kj_at (hP 12 _ rfl) rfl rfl
set_option maxHeartbeats 400000 in
theorem kj_M_13 {D : va_G} {H : Heap} {h0 : Nat} {u sa : Nat → Nat} {cA : Nat → ClassId} (hP : va_P D vwCl (kj_wM h0 u cA) H) : va_at D vwCl (kl_as h0 u sa 13, kt_e (kl_as h0 u sa) cA (kI_τ 13) (0, 24, [])) H := kj_at (hP 13 _ rfl) rfl rfl
set_option maxHeartbeats 400000 in
theorem kj_M_14 {D : va_G} {H : Heap} {h0 : Nat} {u sa : Nat → Nat} {cA : Nat → ClassId} (hP : va_P D vwCl (kj_wM h0 u cA) H) : va_at D vwCl (kl_as h0 u sa 14, kt_e (kl_as h0 u sa) cA (kI_τ 14) (1, 24, [])) H := kj_at (hP 14 _ rfl) rfl rfl
set_option maxHeartbeats 400000 in
theorem kj_M_15 {D : va_G} {H : Heap} {h0 : Nat} {u sa : Nat → Nat} {cA : Nat → ClassId} (hP : va_P D vwCl (kj_wM h0 u cA) H) : va_at D vwCl (kl_as h0 u sa 15, kt_e (kl_as h0 u sa) cA (kI_τ 15) (0, 4, [])) H := kj_at (hP 15 _ rfl) rfl rfl
set_option maxHeartbeats 400000 in
theorem kj_M_16 {D : va_G} {H : Heap} {h0 : Nat} {u sa : Nat → Nat} {cA : Nat → ClassId} (hP : va_P D vwCl (kj_wM h0 u cA) H) : va_at D vwCl (kl_as h0 u sa 16, kt_e (kl_as h0 u sa) cA (kI_τ 16) (0, 72, [])) H := kj_at (hP 16 _ rfl) rfl rfl
set_option maxHeartbeats 400000 in
theorem kj_M_17 {D : va_G} {H : Heap} {h0 : Nat} {u sa : Nat → Nat} {cA : Nat → ClassId} (hP : va_P D vwCl (kj_wM h0 u cA) H) : va_at D vwCl (kl_as h0 u sa 17, kt_e (kl_as h0 u sa) cA (kI_τ 17) (0, 4, [])) H := kj_at (hP 17 _ rfl) rfl rfl
set_option maxHeartbeats 400000 in
theorem kj_M_18 {D : va_G} {H : Heap} {h0 : Nat} {u sa : Nat → Nat} {cA : Nat → ClassId} (hP : va_P D vwCl (kj_wM h0 u cA) H) : va_at D vwCl (kl_as h0 u sa 18, kt_e (kl_as h0 u sa) cA (kI_τ 18) (0, 4, [])) H := kj_at (hP 18 _ rfl) rfl rfl
theorem kj_M {D : va_G} {H : Heap} {h0 : Nat} {u sa : Nat → Nat} {cA : Nat → ClassId} (hP : va_P D vwCl (kj_wM h0 u cA) H) : va_P D vwCl (kt_w kt_shM (kl_as h0 u sa) cA kI_τ) H := by
  intro k q hk
  have hlt : k < 19 := kj_lt hk
  rcases (by omega : k = 0 ∨ k = 1 ∨ k = 2 ∨ k = 3 ∨ k = 4 ∨ k = 5 ∨ k = 6 ∨ k = 7 ∨ k = 8 ∨ k = 9 ∨ k = 10 ∨ k = 11 ∨ k = 12 ∨ k = 13 ∨ k = 14 ∨ k = 15 ∨ k = 16 ∨ k = 17 ∨ k = 18) with rfl | rfl | rfl | rfl | rfl | rfl | rfl | rfl | rfl | rfl | rfl | rfl | rfl | rfl | rfl | rfl | rfl | rfl | rfl
  · exact kj_get hk rfl (kj_M_0 hP)
  · exact kj_get hk rfl (kj_M_1 hP)
  · exact kj_get hk rfl (kj_M_2 hP)
  · exact kj_get hk rfl (kj_M_3 hP)
  · exact kj_get hk rfl (kj_M_4 hP)
  · exact kj_get hk rfl (kj_M_5 hP)
  · exact kj_get hk rfl (kj_M_6 hP)
  · exact kj_get hk rfl (kj_M_7 hP)
  · exact kj_get hk rfl (kj_M_8 hP)
  · exact kj_get hk rfl (kj_M_9 hP)
  · exact kj_get hk rfl (kj_M_10 hP)
  · exact kj_get hk rfl (kj_M_11 hP)
  · exact kj_get hk rfl (kj_M_12 hP)
  · exact kj_get hk rfl (kj_M_13 hP)
  · exact kj_get hk rfl (kj_M_14 hP)
  · exact kj_get hk rfl (kj_M_15 hP)
  · exact kj_get hk rfl (kj_M_16 hP)
  · exact kj_get hk rfl (kj_M_17 hP)
  · exact kj_get hk rfl (kj_M_18 hP)
theorem kj_adC (h0 : Nat) (u sa : Nat → Nat) (cA : Nat → ClassId) : (kj_wC h0 u cA).map (fun q => q.1) = (List.range 32).map (kl_as h0 u sa) := rfl
theorem kj_adM (h0 : Nat) (u sa : Nat → Nat) (cA : Nat → ClassId) : (kj_wM h0 u cA).map (fun q => q.1) = (List.range 19).map (kl_as h0 u sa) := rfl
